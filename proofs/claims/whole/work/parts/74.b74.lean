section SPR
variable {d : Nat} {G : GG} {c : CC} {Q : Option AV → HH → Prop} {v0 v1 v2 : Int}
abbrev I32 (x : Int) : Prop := -2147483648 ≤ x ∧ x < 2147483648
theorem and_I32 {x y : Int} : I32 (q_and x y) := ⟨Int32.le_toInt _, Int32.toInt_lt _⟩
theorem r_isIn (hG : Shp G) (h0 : I32 v0) (h1 : I32 v1) (h2 : I32 v2) (hz : Q (some (aI (if v1 ≤ v0 ∧ v0 ≤ v2 then 1 else 0))) (G, c)) : TM d 164 [aI v0, aI v1, aI v2] (G, c) Q := by
  refine b164_0 hG (by intros; omega) (by intros; omega) ?_ (by intros; omega) ?_ ?_
  · intro p1; rw [if_neg (by omega)] at hz; exact hz
  · intro p1 p2; rw [if_neg (by omega)] at hz; exact hz
  · intro p1 p2; rw [if_pos (by omega)] at hz; exact hz
theorem r_bitOf (hG : Shp G) (hz : Q (some (aI (bt v0 v1))) (G, c)) : TM d 165 [aI v0, aI v1] (G, c) Q := by
  have hb : bt v0 v1 = 0 ∨ bt v0 v1 = 1 := bt_01
  unfold bt at hb hz
  refine b165_0 hG (by intros; omega) ?_ ?_
  · intro p1; rw [show q_and (q_shr v0 v1) 1 = 0 by omega] at hz; exact hz
  · intro p1; rw [p1] at hz; exact hz
theorem r_lesser (hG : Shp G) (h0 : I32 v0) (h1 : I32 v1) (hz : Q (some (aI (lsr v0 v1))) (G, c)) : TM d 166 [aI v0, aI v1] (G, c) Q := by
  unfold lsr at hz
  refine b166_0 hG (by intros; omega) (by intros; omega) ?_ ?_
  · intro p1; rw [if_neg (by omega)] at hz; exact hz
  · intro p1; rw [if_pos (by omega)] at hz; exact hz
abbrev isK (S : SS) (k : Int) : Int := if 0 ≤ k ∧ k < S 0 then 1 else 0
abbrev isSo (S : SS) (k : Int) : Int := if 0 ≤ k ∧ k < S 1 then 1 else 0
theorem r_isKind (hG : Shp G) (hR : InvR (c 190)) (h1 : I32 v1) (hz : Q (some (aI (isK (c 190) v1))) (G, c)) : TM (d + 1) 187 [aR 188, aI v1] (G, c) Q := by
  have hr := hR.1
  refine b187_0 hG TM_eqo rfl ?_
  refine r_isIn hG h1 (by omega) (by omega) ?_
  refine b187_13 hG (by intros; omega) ?_
  unfold isK at hz
  rw [show (if 0 ≤ v1 ∧ v1 ≤ c 190 0 - 1 then (1 : Int) else 0) = if 0 ≤ v1 ∧ v1 < c 190 0 then 1 else 0 by omega]
  exact hz
theorem r_isSoul (hG : Shp G) (hR : InvR (c 190)) (h1 : I32 v1) (hz : Q (some (aI (isSo (c 190) v1))) (G, c)) : TM (d + 1) 188 [aR 188, aI v1] (G, c) Q := by
  have hr := hR.1
  refine b188_0 hG TM_eqo rfl ?_
  refine r_isIn hG h1 (by omega) (by omega) ?_
  refine b188_13 hG (by intros; omega) ?_
  unfold isSo at hz
  rw [show (if 0 ≤ v1 ∧ v1 ≤ c 190 1 - 1 then (1 : Int) else 0) = if 0 ≤ v1 ∧ v1 < c 190 1 then 1 else 0 by omega]
  exact hz
theorem r_roomOf (hG : Shp G) (hR : InvR (c 190)) (hI : InvL (c 190)) (h0 : 0 ≤ v1) (h1 : v1 < c 190 0) (hz : Q (some (aI (room (c 190) v1))) (G, c)) : TM d 189 [aR 188, aI v1] (G, c) Q := by
  have hr := hR.1
  refine b189_0 hG (by intros; omega) (by intros; omega) rfl ?_
  have key : ∀ i, 0 ≤ i → i ≤ c 190 1 → T d 189 12 [some (aR 188), some (aI v1), some (aI (c 190 (9 + v1) - sumI (isAs (c 190) v1) i)), some (aI i)] [] (G, c) (QM Q) := by
    refine int_ind ?_ ?_
    · refine b189_12 hG rfl (by intros; omega) (by intros; omega) ?_ (by intros; omega) (by intros; omega) rfl (by intros; omega) ?_ (by intros; omega) (by intros; omega) rfl (by intros; omega) (by intros; omega) ?_ ?_
      · intro p1; exact hz
      · intro p1; omega
      · intro p1; omega
      · intro p1; omega
    · intro i h2 h3 ih
      have hi := hI.1 i h2 (by omega)
      rw [sumI_s h2] at ih
      refine b189_12 hG rfl (by intros; omega) (by intros; omega) ?_ (by intros; omega) (by intros; omega) rfl (by intros; omega) ?_ (by intros; omega) (by intros; omega) rfl (by intros; omega) (by intros; omega) ?_ ?_
      · intro p1; omega
      · intro p1 p2
        rw [show c 190 (9 + v1) - sumI (isAs (c 190) v1) i - 0 = c 190 (9 + v1) - (sumI (isAs (c 190) v1) i + isAs (c 190) v1 i) by unfold isAs; rw [if_neg (by omega)]; omega]
        exact ih
      · intro p1 p2 p3
        rw [show c 190 (9 + v1) - sumI (isAs (c 190) v1) i - 0 = c 190 (9 + v1) - (sumI (isAs (c 190) v1) i + isAs (c 190) v1 i) by unfold isAs; rw [if_neg (by omega)]; omega]
        exact ih
      · intro p1 p2 p3
        rw [show c 190 (9 + v1) - sumI (isAs (c 190) v1) i - 1 = c 190 (9 + v1) - (sumI (isAs (c 190) v1) i + isAs (c 190) v1 i) by unfold isAs; rw [if_pos (by omega)]; omega]
        exact ih
  have k0 := key 0 (by omega) (by omega)
  rw [sumI_0 (by omega), show c 190 (9 + v1) - 0 = c 190 (9 + v1) by omega] at k0
  exact k0
def dbtF (S : SS) (s : Int) : Int := sumI (fun q => S (205 + 8 * s + q)) 8
def dueF (S : SS) (s : Int) : Int := sumI (fun q => S (205 + 8 * q + s)) 8
def allF (S : SS) : Int := sumI (dbtF S) 8
theorem r_debtsOf (hG : Shp G) (h0 : 0 ≤ v1) (h1 : v1 < 8) (hz : Q (some (aI (dbtF (c 190) v1))) (G, c)) : TM d 192 [aR 188, aI v1] (G, c) Q := by
  refine b192_0 hG ?_
  have key : ∀ i, 0 ≤ i → i ≤ 8 → T d 192 4 [some (aR 188), some (aI v1), some (aI (sumI (fun q => c 190 (205 + 8 * v1 + q)) i)), some (aI i)] [] (G, c) (QM Q) := by
    refine int_ind ?_ ?_
    · refine b192_4 hG (by intros; omega) ?_ (by intros; omega) (by intros; omega) rfl ?_
      · intro p1; exact hz
      · intro p1; omega
    · intro i h2 h3 ih
      rw [sumI_s h2] at ih
      refine b192_4 hG (by intros; omega) ?_ (by intros; omega) (by intros; omega) rfl ?_
      · intro p1; omega
      · intro p1; exact ih
  have k0 := key 0 (by omega) (by omega)
  rw [sumI_0 (by omega)] at k0
  exact k0
theorem r_duesOf (hG : Shp G) (h0 : 0 ≤ v1) (h1 : v1 < 8) (hz : Q (some (aI (dueF (c 190) v1))) (G, c)) : TM d 193 [aR 188, aI v1] (G, c) Q := by
  refine b193_0 hG ?_
  have key : ∀ i, 0 ≤ i → i ≤ 8 → T d 193 4 [some (aR 188), some (aI v1), some (aI (sumI (fun q => c 190 (205 + 8 * q + v1)) i)), some (aI i)] [] (G, c) (QM Q) := by
    refine int_ind ?_ ?_
    · refine b193_4 hG (by intros; omega) ?_ (by intros; omega) (by intros; omega) rfl ?_
      · intro p1; exact hz
      · intro p1; omega
    · intro i h2 h3 ih
      rw [sumI_s h2] at ih
      refine b193_4 hG (by intros; omega) ?_ (by intros; omega) (by intros; omega) rfl ?_
      · intro p1; omega
      · intro p1; exact ih
  have k0 := key 0 (by omega) (by omega)
  rw [sumI_0 (by omega)] at k0
  exact k0
theorem r_all (hG : Shp G) (hz : Q (some (aI (allF (c 190)))) (G, c)) : TM (d + 1) 196 [aR 188] (G, c) Q := by
  refine b196_0 hG ?_
  have key : ∀ i, 0 ≤ i → i ≤ 8 → T (d + 1) 196 4 [some (aR 188), some (aI (sumI (dbtF (c 190)) i)), some (aI i)] [] (G, c) (QM Q) := by
    refine int_ind ?_ ?_
    · refine b196_4 hG TM_eqo (by intros; omega) ?_ ?_
      · intro p1; exact hz
      · intro p1; omega
    · intro i h2 h3 ih
      rw [sumI_s h2] at ih
      refine b196_4 hG TM_eqo (by intros; omega) ?_ ?_
      · intro p1; omega
      · intro p1
        refine r_debtsOf hG h2 h3 ?_
        refine b196_16 hG ?_
        exact ih
  have k0 := key 0 (by omega) (by omega)
  rw [sumI_0 (by omega)] at k0
  exact k0
theorem room_b (hR : InvR (c 190)) (hI : InvL (c 190)) (h0 : 0 ≤ v1) (h1 : v1 < c 190 0) : 0 ≤ room (c 190) v1 ∧ room (c 190) v1 ≤ 9 := by
  have hr := hR.1
  have := hI.2.2.2.2.1 v1 h0 h1
  have := room_le (S := c 190) (k := v1) (by omega)
  have := hR.2.1 v1 h0 h1
  omega
theorem r_whyOf (hG : Shp G) (hR : InvR (c 190)) (hI : InvL (c 190)) (h0 : 0 ≤ v1) (h1 : v1 < 8) (h2 : 0 ≤ v2) (h3 : v2 < c 190 0) (hz : Q (some (aI (whyF (c 190) v1 v2))) (G, c)) : TM (d + 1) 198 [aR 188, aI v1, aI v2] (G, c) Q := by
  have hr := hR.1
  have hs := hI.1 v1 h0 h1
  unfold whyF at hz
  refine b198_0 hG TM_eqo (by intros; omega) (by intros; omega) rfl (by intros; omega) (by intros; omega) (by intros; omega) rfl ?_ ?_
  · intro p1
    rw [if_neg (by omega)] at hz
    refine r_bitOf hG ?_
    have hb : bt (c 190 (51 + v1)) v2 = 0 ∨ bt (c 190 (51 + v1)) v2 = 1 := bt_01
    refine b198_30 hG TM_eqo (by intros; omega) ?_ ?_
    · intro p2
      rw [if_neg p2] at hz
      refine r_roomOf hG hR hI h2 h3 ?_
      have hb := room_b hR hI h2 h3
      refine b198_42 hG (by intros; omega) ?_ ?_
      · intro p3; rw [if_neg p3] at hz; exact hz
      · intro p3; rw [if_pos p3] at hz; exact hz
    · intro p2; rw [if_pos p2] at hz; exact hz
  · intro p1; rw [if_pos p1] at hz; exact hz
theorem r_lives (hG : Shp G) (h0 : 0 ≤ v1) (h1 : v1 < 8) (h2 : 0 ≤ v2) (h3 : v2 < 6) (hz : Q none (G, q_uf c 190 (livesF (c 190) v1 v2))) : TM d 199 [aR 188, aI v1, aI v2] (G, c) Q := by
  refine b199_0 hG (by intros; omega) (by intros; omega) (by intros; omega) (by intros; omega) (up_n (by omega)) (by intros; omega) (by intros; omega) ?_
  unfold livesF at hz
  rw [up_uf (c := c), uf_up]
  exact hz
theorem r_born (hG : Shp G) (h0 : 0 ≤ v1) (h1 : v1 < 8) (h2 : 0 ≤ v2) (h3 : v2 < 6) (hz : Q none (G, q_uf c 190 (bornF (c 190) v1 v2))) : TM (d + 1) 200 [aR 188, aI v1, aI v2] (G, c) Q := by
  refine b200_0 hG TM_eqo ?_
  refine r_lives hG h0 h1 h2 h3 ?_
  have e1 : livesF (c 190) v1 v2 (189 + v1) = c 190 (189 + v1) := by unfold livesF; rw [u1_n (by omega), u1_n (by omega)]
  have e2 : livesF (c 190) v1 v2 171 = c 190 171 := by unfold livesF; rw [u1_n (by omega), u1_n (by omega)]
  refine b200_6 hG (by intros; omega) (by intros; omega) (by intros; omega) (by intros; omega) ((up_n (by omega)).trans ((congrFun uf_e _).trans e1)) ((up_n (by omega)).trans ((up_n (by omega)).trans ((congrFun uf_e _).trans e2))) ?_
  rw [uf_up, uf_up, uf_up]
  exact hz
theorem r_settles (hG : Shp G) (hR : InvR (c 190)) (hI : InvL (c 190)) (h0 : 0 ≤ v1) (h1 : v1 < 8) (h2 : 0 ≤ v2) (h3 : v2 < 8) (h4 : ¬ v1 = v2) (hz : Q none (G, q_uf c 190 (settF (c 190) v1 v2))) : TM (d + 1) 201 [aR 188, aI v1, aI v2] (G, c) Q := by
  have hr := hR.1
  have ha := hI.1 v1 h0 h1
  have hb := hI.1 v2 h2 h3
  have hm := mtF_b hR hI h0 h1 h2 h3
  have d1 := hI.2.2.1 (8 * v1 + v2) (by omega) (by omega)
  have d2 := hI.2.2.1 (8 * v2 + v1) (by omega) (by omega)
  rw [show 205 + (8 * v1 + v2) = 205 + 8 * v1 + v2 by omega] at d1
  rw [show 205 + (8 * v2 + v1) = 205 + 8 * v2 + v1 by omega] at d2
  obtain ⟨s1, s2, s3, s4, s5⟩ := sett_b hR hI h0 h1 h2 h3
  have key : TM d 166 [aI (mtF (c 190) v1 v2), aI (c 190 (205 + 8 * v1 + v2))] (G, c) (fun r h' => T (d + 1) 201 85 [some (aR 188), some (aI v1), some (aI v2), some (aI (mtF (c 190) v1 v2)), none, none] (r.toList ++ []) h' (QM Q)) := by
    refine r_lesser hG (by omega) (by omega) ?_
    refine b201_85 hG TM_eqo (by intros; omega) (by intros; omega) rfl ?_
    refine r_lesser hG (by show I32 (mtF (c 190) v1 v2 - fsF (c 190) v1 v2); omega) (by omega) ?_
    refine b201_109 hG (by intros; omega) (by intros; omega) rfl (by intros; omega) (by intros; omega) (up_n (by omega)) (by intros; omega) (by intros; omega) (by intros; omega) (by intros; omega) ((up_n (by omega)).trans ((up_n (by omega)).trans ((up_n (by omega)).trans ((up_n (by omega)).trans rfl)))) ?_
    rw [up_uf (c := c), uf_up, uf_up, uf_up, uf_up]
    exact hz
  unfold mtF at key hm
  refine b201_0 hG (by intros; omega) (by intros; omega) rfl (by intros; omega) (by intros; omega) (by intros; omega) rfl ?_ (by intros; omega) (by intros; omega) rfl (by intros; omega) (by intros; omega) (by intros; omega) rfl ?_ rfl rfl (by intros; omega) (by intros; omega) rfl (by intros; omega) (by intros; omega) rfl ?_
  · intro p1
    rw [if_neg (by omega)] at key; exact key
  · intro p1 p2
    rw [if_neg (by omega)] at key; exact key
  · intro p1 p2
    rw [if_pos (by omega)] at key; exact key
end SPR
