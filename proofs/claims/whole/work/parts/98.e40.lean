section SPse
variable {d r n0 : Nat} {G : GG} {c c' cA cB cA' cB' cA0 cB0 : CC} {Q : Option AV → HH → Prop} {v v1 v2 N k m n s t t0 w dep q pa po D sg s0 x y u : Int} {S : SS} {bs bs' dp : Int → Int}
def RPc (cA : CC) (dp : Int → Int) : Prop := dp 0 = 0 ∧ ∀ i, 0 ≤ i → i < cA 48 6 → ((cA 49 i = 7 ∨ 13 ≤ cA 49 i) → 0 ≤ dp i ∧ dp (i + 1) = dp i + 1) ∧ (cA 49 i = 12 → 1 ≤ dp i ∧ dp (i + 1) = dp i) ∧ ((cA 49 i = 10 ∨ cA 49 i = 11) → 2 ≤ dp i ∧ dp (i + 1) = dp i - 1)
def SeC (S : SS) (cA cB : CC) (t0 : Int) (bs : Int → Int) (dep q pa po D : Int) : Prop :=
  (cA 48 8 = cB 188 41 ∧ 0 ≤ cB 188 41 ∧ cB 188 41 ≤ 20) ∧
  (cA 48 6 = cB 188 40 + q + pa + po ∧ 0 ≤ cB 188 40 ∧ cA 48 6 ≤ 2 * cB 188 41) ∧
  (cB 188 42 = t0 + q + pa + po ∧ 0 ≤ t0 ∧ t0 ≤ 3 * dep - 1) ∧
  (0 ≤ q ∧ (pa = 0 ∨ pa = 1) ∧ (po = 0 ∨ po = 1) ∧ 0 ≤ D) ∧
  (cB 188 43 = dep + q ∧ 1 ≤ dep ∧ dep + q ≤ 9) ∧
  (∀ i, 0 ≤ i → i < t0 → cB 206 i = bs i ∧ 20 ≤ bs i ∧ bs i ≤ 23) ∧
  (∀ i, t0 + po + pa ≤ i → i < t0 + po + pa + q → cB 206 i = 20) ∧ (pa = 1 → cB 206 (t0 + po) = 21) ∧ (po = 1 → cB 206 t0 = 22) ∧
  (∀ i, 0 ≤ i → i < cB 188 40 → CdR S (cA 49 i) (cA 50 i) (cA 51 i) (cB 192 (3 * i)) (cB 192 (3 * i + 1)) (cB 192 (3 * i + 2))) ∧
  (∀ i, cB 188 40 ≤ i → i < cB 188 40 + q → cA 49 i = 12) ∧ (pa = 1 → cA 49 (cB 188 40 + q) = 11) ∧ (po = 1 → cA 49 (cB 188 40 + q + pa) = 10) ∧
  ∃ dp, RPc cA dp ∧ dp (cA 48 6) = D
theorem SeC_fr (h : SeC S cA cB t0 bs dep q pa po D) (a1 : cA' 48 6 = cA 48 6) (a2 : cA' 48 8 = cA 48 8) (a3 : cA' 49 = cA 49) (a4 : cA' 50 = cA 50) (a5 : cA' 51 = cA 51) (b1 : ∀ i, 40 ≤ i → i ≤ 43 → cB' 188 i = cB 188 i) (b2 : cB' 192 = cB 192) (b3 : cB' 206 = cB 206) : SeC S cA' cB' t0 bs dep q pa po D := by
  unfold SeC RPc
  rw [a1, a2, a3, a4, a5, b1 40 (by omega) (by omega), b1 41 (by omega) (by omega), b1 42 (by omega) (by omega), b1 43 (by omega) (by omega), b2, b3]
  exact h
theorem SeC_popN (h : SeC S cA cB t0 bs dep (q + 1) pa po D) (hq : 0 ≤ q) (e40 : cB' 188 40 = cB 188 40 + 1) (e41 : cB' 188 41 = cB 188 41) (e42 : cB' 188 42 = cB 188 42 - 1) (e43 : cB' 188 43 = cB 188 43 - 1) (e206 : cB' 206 = cB 206) (e192 : ∀ i, (i < 3 * cB 188 40 ∨ 3 * cB 188 40 + 2 < i) → cB' 192 i = cB 192 i) (w0 : cB' 192 (3 * cB 188 40) = 20) : SeC S cA cB' t0 bs dep q pa po D := by
  obtain ⟨h1, h2, h3, h4, h5, h6, h7, h8, h9, h10, h11, h12, h13, h14⟩ := h
  unfold SeC
  rw [e40, e41, e42, e43, e206]
  refine ⟨h1, by omega, by omega, by omega, by omega, h6, fun i p1 p2 => h7 i p1 (by omega), h8, h9, fun i p1 p2 => ?_, fun i p1 p2 => h11 i (by omega) (by omega), fun p => ?_, fun p => ?_, h14⟩
  · by_cases hi : i = cB 188 40
    · rw [hi, w0, h11 (cB 188 40) (by omega) (by omega)]
      exact Or.inr (Or.inr (Or.inr (Or.inr ⟨by omega, by omega, by omega⟩)))
    · rw [e192 (3 * i) (by omega), e192 (3 * i + 1) (by omega), e192 (3 * i + 2) (by omega)]
      exact h10 i p1 (by omega)
  · rw [← h12 p]; congr 1; omega
  · rw [← h13 p]; congr 1; omega
theorem SeC_popA (h : SeC S cA cB t0 bs dep 0 1 po D) (e40 : cB' 188 40 = cB 188 40 + 1) (e41 : cB' 188 41 = cB 188 41) (e42 : cB' 188 42 = cB 188 42 - 1) (e43 : cB' 188 43 = cB 188 43) (e206 : cB' 206 = cB 206) (e192 : ∀ i, (i < 3 * cB 188 40 ∨ 3 * cB 188 40 + 2 < i) → cB' 192 i = cB 192 i) (w0 : cB' 192 (3 * cB 188 40) = 21) : SeC S cA cB' t0 bs dep 0 0 po D := by
  obtain ⟨h1, h2, h3, h4, h5, h6, h7, h8, h9, h10, h11, h12, h13, h14⟩ := h
  unfold SeC
  rw [e40, e41, e42, e43, e206]
  have h12 := h12 rfl
  rw [show cB 188 40 + 0 = cB 188 40 by omega] at h12
  refine ⟨h1, by omega, by omega, by omega, by omega, h6, fun i p1 p2 => by omega, fun p => by omega, h9, fun i p1 p2 => ?_, fun i p1 p2 => by omega, fun p => by omega, fun p => ?_, h14⟩
  · by_cases hi : i = cB 188 40
    · rw [hi, w0, h12]
      exact Or.inr (Or.inr (Or.inr (Or.inr ⟨by omega, by omega, by omega⟩)))
    · rw [e192 (3 * i) (by omega), e192 (3 * i + 1) (by omega), e192 (3 * i + 2) (by omega)]
      exact h10 i p1 (by omega)
  · rw [← h13 p]; congr 1; omega
theorem SeC_popO (h : SeC S cA cB t0 bs dep 0 0 1 D) (e40 : cB' 188 40 = cB 188 40 + 1) (e41 : cB' 188 41 = cB 188 41) (e42 : cB' 188 42 = cB 188 42 - 1) (e43 : cB' 188 43 = cB 188 43) (e206 : cB' 206 = cB 206) (e192 : ∀ i, (i < 3 * cB 188 40 ∨ 3 * cB 188 40 + 2 < i) → cB' 192 i = cB 192 i) (w0 : cB' 192 (3 * cB 188 40) = 22) : SeC S cA cB' t0 bs dep 0 0 0 D := by
  obtain ⟨h1, h2, h3, h4, h5, h6, h7, h8, h9, h10, h11, h12, h13, h14⟩ := h
  unfold SeC
  rw [e40, e41, e42, e43, e206]
  have h13 := h13 rfl
  rw [show cB 188 40 + 0 + 0 = cB 188 40 by omega] at h13
  refine ⟨h1, by omega, by omega, by omega, by omega, h6, fun i p1 p2 => by omega, fun p => by omega, fun p => by omega, fun i p1 p2 => ?_, fun i p1 p2 => by omega, fun p => by omega, fun p => by omega, h14⟩
  by_cases hi : i = cB 188 40
  · rw [hi, w0, h13]
    exact Or.inr (Or.inr (Or.inr (Or.inr ⟨by omega, by omega, by omega⟩)))
  · rw [e192 (3 * i) (by omega), e192 (3 * i + 1) (by omega), e192 (3 * i + 2) (by omega)]
    exact h10 i p1 (by omega)
theorem SeC_push (h : SeC S cA cB t0 bs dep 0 0 0 D) (u : Int) (e40 : cB' 188 40 = cB 188 40) (e41 : cB' 188 41 = cB 188 41) (e42 : cB' 188 42 = cB 188 42 + 1) (e43 : cB' 188 43 = u) (e206 : cB' 206 = q_u1 (cB 206) t0 w) (e192 : cB' 192 = cB 192) (hw : 20 ≤ w ∧ w ≤ 23) (hd : 1 ≤ u ∧ u ≤ 9 ∧ t0 + 1 ≤ 3 * u - 1) : SeC S cA cB' (t0 + 1) (q_u1 bs t0 w) u 0 0 0 D := by
  obtain ⟨h1, h2, h3, h4, h5, h6, h7, h8, h9, h10, h11, h12, h13, h14⟩ := h
  unfold SeC
  rw [e40, e41, e42, e43, e206, e192]
  refine ⟨h1, h2, by omega, h4, by omega, fun i p1 p2 => ?_, fun i p1 p2 => by omega, fun p => by omega, fun p => by omega, h10, fun i p1 p2 => by omega, fun p => by omega, fun p => by omega, h14⟩
  by_cases hi : i = t0
  · rw [hi, u1_e, u1_e]; exact ⟨rfl, hw⟩
  · rw [u1_n hi, u1_n hi]; exact h6 i p1 (by omega)
theorem SeC_close (h : SeC S cA cB (t0 + 1) (q_u1 bs t0 w) (dep + 1) 0 0 0 D) (hd : 1 ≤ dep ∧ 0 ≤ t0 ∧ t0 ≤ 3 * dep - 1) (e40 : cB' 188 40 = cB 188 40) (e41 : cB' 188 41 = cB 188 41) (e42 : cB' 188 42 = cB 188 42 - 1) (e43 : cB' 188 43 = cB 188 43 - 1) (e206 : cB' 206 = cB 206) (e192 : cB' 192 = cB 192) : SeC S cA cB' t0 bs dep 0 0 0 D := by
  obtain ⟨h1, h2, h3, h4, h5, h6, h7, h8, h9, h10, h11, h12, h13, h14⟩ := h
  unfold SeC
  rw [e40, e41, e42, e43, e206, e192]
  refine ⟨h1, h2, by omega, h4, by omega, fun i p1 p2 => ?_, fun i p1 p2 => by omega, fun p => by omega, fun p => by omega, h10, fun i p1 p2 => by omega, fun p => by omega, fun p => by omega, h14⟩
  have := h6 i p1 (by omega)
  rw [u1_n (by omega)] at this
  exact this
def adS (c : CC) (s k sg n : Int) : CC := q_up (q_up (q_up (q_up c 49 s k) 50 s sg) 51 s n) 48 6 (s + 1)
theorem c_addStep (hG : Shp G) (es : c 48 6 = s) (hs : 0 ≤ s ∧ s < 40) (hz : Q (some (aI 1)) (G, adS c s k sg n)) : TM d 88 [aR 48, aI k, aI sg, aI n] (G, c) Q := by
  refine b88_0 hG (by unfold Sent; decide) (es) (by intros; omega) ?_ (es) (by intros; omega) (by intros; omega) ((up_n (by omega)).trans es) (by intros; omega) (by intros; omega) ((up_n (by omega)).trans ((up_n (by omega)).trans es)) (by intros; omega) (by intros; omega) ((up_n (by omega)).trans ((up_n (by omega)).trans ((up_n (by omega)).trans es))) ?_
  · intro q; omega
  · intro q; exact hz
def cdB (c : CC) (m w s0 n : Int) : CC := q_up (q_up (q_up (q_up c 192 (3 * m) w) 192 (3 * m + 1) s0) 192 (3 * m + 2) n) 188 40 (m + 1)
theorem r_code (hG : Shp G) (em : c 188 40 = m) (hm : 0 ≤ m ∧ m < 45) (hz : Q none (G, cdB c m w s0 n)) : TM d 252 [aR 188, aI w, aI s0, aI n] (G, c) Q := by
  refine b252_0 hG (em) (by intros; omega) (by intros; omega) ((up_n (by omega)).trans em) (by intros; omega) (by intros; omega) ((up_n (by omega)).trans ((up_n (by omega)).trans em)) (by intros; omega) (by intros; omega) ((up_n (by omega)).trans ((up_n (by omega)).trans ((up_n (by omega)).trans em))) ?_
  exact hz
theorem adS_r (h1 : ¬ r = 48) (h2 : ¬ r = 49) (h3 : ¬ r = 50) (h4 : ¬ r = 51) : adS c s k sg n r = c r := by
  unfold adS
  rw [up_r h1, up_r h4, up_r h3, up_r h2]
theorem adS_48 (h : ¬ x = 6) : adS c s k sg n 48 x = c 48 x := by
  unfold adS
  rw [up_n (by omega), up_n (by omega), up_n (by omega), up_n (by omega)]
theorem adS_6 : adS c s k sg n 48 6 = s + 1 := up_e
theorem adS_49 : adS c s k sg n 49 = q_u1 (c 49) s k := by
  unfold adS
  rw [up_r (by omega), up_r (by omega), up_r (by omega), up_er]
theorem adS_50 : adS c s k sg n 50 = q_u1 (c 50) s sg := by
  unfold adS
  rw [up_r (by omega), up_r (by omega), up_er, up_r (by omega)]
theorem adS_51 : adS c s k sg n 51 = q_u1 (c 51) s n := by
  unfold adS
  rw [up_r (by omega), up_er, up_r (by omega), up_r (by omega)]
theorem cdB_r (h1 : ¬ r = 188) (h2 : ¬ r = 192) : cdB c m w s0 n r = c r := by
  unfold cdB
  rw [up_r h1, up_r h2, up_r h2, up_r h2]
theorem cdB_188 (h : ¬ x = 40) : cdB c m w s0 n 188 x = c 188 x := by
  unfold cdB
  rw [up_n (by omega), up_n (by omega), up_n (by omega), up_n (by omega)]
theorem cdB_40 : cdB c m w s0 n 188 40 = m + 1 := up_e
theorem cdB_192 (h : x < 3 * m ∨ 3 * m + 2 < x) : cdB c m w s0 n 192 x = c 192 x := by
  unfold cdB
  rw [up_n (by omega), up_n (by omega), up_n (by omega), up_n (by omega)]
theorem cdB_w : cdB c m w s0 n 192 (3 * m) = w ∧ cdB c m w s0 n 192 (3 * m + 1) = s0 ∧ cdB c m w s0 n 192 (3 * m + 2) = n := by
  unfold cdB
  refine ⟨?_, ?_, ?_⟩
  · rw [up_n (by omega), up_n (by omega), up_n (by omega), up_e]
  · rw [up_n (by omega), up_n (by omega), up_e]
  · rw [up_n (by omega), up_e]
theorem RPc_add (h : ∃ dp, RPc cA dp ∧ dp (cA 48 6) = D) (hn : 0 ≤ cA 48 6) (x : Int) (hx : ((k = 7 ∨ 13 ≤ k) → 0 ≤ D ∧ x = D + 1) ∧ (k = 12 → 1 ≤ D ∧ x = D) ∧ ((k = 10 ∨ k = 11) → 2 ≤ D ∧ x = D - 1)) : ∃ dp, RPc (adS cA (cA 48 6) k sg n) dp ∧ dp (adS cA (cA 48 6) k sg n 48 6) = x := by
  obtain ⟨dp, ⟨r0, r1⟩, r2⟩ := h
  refine ⟨fun i => if i = cA 48 6 + 1 then x else dp i, ⟨?_, fun i p1 p2 => ?_⟩, ?_⟩
  · show (if (0 : Int) = cA 48 6 + 1 then x else dp 0) = 0
    rw [if_neg (by omega)]; exact r0
  · rw [adS_6] at p2
    rw [adS_49]
    show ((q_u1 (cA 49) (cA 48 6) k i = 7 ∨ 13 ≤ q_u1 (cA 49) (cA 48 6) k i) → 0 ≤ (if i = cA 48 6 + 1 then x else dp i) ∧ (if i + 1 = cA 48 6 + 1 then x else dp (i + 1)) = (if i = cA 48 6 + 1 then x else dp i) + 1) ∧ (q_u1 (cA 49) (cA 48 6) k i = 12 → 1 ≤ (if i = cA 48 6 + 1 then x else dp i) ∧ (if i + 1 = cA 48 6 + 1 then x else dp (i + 1)) = (if i = cA 48 6 + 1 then x else dp i)) ∧ ((q_u1 (cA 49) (cA 48 6) k i = 10 ∨ q_u1 (cA 49) (cA 48 6) k i = 11) → 2 ≤ (if i = cA 48 6 + 1 then x else dp i) ∧ (if i + 1 = cA 48 6 + 1 then x else dp (i + 1)) = (if i = cA 48 6 + 1 then x else dp i) - 1)
    rw [if_neg (by omega)]
    by_cases hi : i = cA 48 6
    · rw [hi, u1_e, if_pos rfl, r2]
      exact hx
    · rw [u1_n hi, if_neg (by omega)]
      exact r1 i p1 (by omega)
  · rw [adS_6]
    show (if cA 48 6 + 1 = cA 48 6 + 1 then x else dp _) = x
    rw [if_pos rfl]
theorem SeC_addN (h : SeC S cA cB (t0 + 1) (q_u1 bs t0 20) (dep + 1) q 0 0 D) (hd : 1 ≤ dep ∧ 0 ≤ t0 ∧ t0 ≤ 3 * dep - 1) (hD : 1 ≤ D) (hx : cA 48 6 + 1 ≤ 2 * cB 188 41) : SeC S (adS cA (cA 48 6) 12 0 0) cB t0 bs dep (q + 1) 0 0 D := by
  obtain ⟨h1, h2, h3, h4, h5, h6, h7, h8, h9, h10, h11, h12, h13, h14⟩ := h
  have hr := RPc_add (k := 12) (sg := 0) (n := 0) h14 (by omega) D (by omega)
  have r51 : adS cA (cA 48 6) 12 0 0 51 = q_u1 (cA 51) (cA 48 6) 0 := adS_51
  have r50 : adS cA (cA 48 6) 12 0 0 50 = q_u1 (cA 50) (cA 48 6) 0 := adS_50
  have r49 : adS cA (cA 48 6) 12 0 0 49 = q_u1 (cA 49) (cA 48 6) 12 := adS_49
  have r6 : adS cA (cA 48 6) 12 0 0 48 6 = cA 48 6 + 1 := adS_6
  have r8 : adS cA (cA 48 6) 12 0 0 48 8 = cA 48 8 := adS_48 (by omega)
  generalize adS cA (cA 48 6) 12 0 0 = cA' at *
  refine ⟨by rw [r8]; exact h1, by rw [r6]; omega, by omega, by omega, by omega, fun i p1 p2 => ?_, fun i p1 p2 => ?_, fun p => by omega, fun p => by omega, fun i p1 p2 => ?_, fun i p1 p2 => ?_, fun p => by omega, fun p => by omega, hr⟩
  · have := h6 i p1 (by omega)
    rw [u1_n (by omega)] at this
    exact this
  · by_cases hi : i = t0
    · have := (h6 t0 (by omega) (by omega)).1
      rw [u1_e] at this
      rw [hi]; exact this
    · exact h7 i (by omega) (by omega)
  · rw [r49, r50, r51, u1_n (by omega), u1_n (by omega), u1_n (by omega)]
    exact h10 i p1 p2
  · rw [r49]
    by_cases hi : i = cA 48 6
    · rw [hi, u1_e]
    · rw [u1_n hi]; exact h11 i p1 (by omega)
theorem SeC_addA (h : SeC S cA cB (t0 + 1) (q_u1 bs t0 21) dep q 0 0 D) (h0 : 0 ≤ t0) (hD : 2 ≤ D) (hx : cA 48 6 + 1 ≤ 2 * cB 188 41) : SeC S (adS cA (cA 48 6) 11 0 0) cB t0 bs dep q 1 0 (D - 1) := by
  obtain ⟨h1, h2, h3, h4, h5, h6, h7, h8, h9, h10, h11, h12, h13, h14⟩ := h
  have hr := RPc_add (k := 11) (sg := 0) (n := 0) h14 (by omega) (D - 1) (by omega)
  have r51 : adS cA (cA 48 6) 11 0 0 51 = q_u1 (cA 51) (cA 48 6) 0 := adS_51
  have r50 : adS cA (cA 48 6) 11 0 0 50 = q_u1 (cA 50) (cA 48 6) 0 := adS_50
  have r49 : adS cA (cA 48 6) 11 0 0 49 = q_u1 (cA 49) (cA 48 6) 11 := adS_49
  have r6 : adS cA (cA 48 6) 11 0 0 48 6 = cA 48 6 + 1 := adS_6
  have r8 : adS cA (cA 48 6) 11 0 0 48 8 = cA 48 8 := adS_48 (by omega)
  generalize adS cA (cA 48 6) 11 0 0 = cA' at *
  refine ⟨by rw [r8]; exact h1, by rw [r6]; omega, by omega, by omega, by omega, fun i p1 p2 => ?_, fun i p1 p2 => h7 i (by omega) (by omega), fun p => ?_, fun p => by omega, fun i p1 p2 => ?_, fun i p1 p2 => ?_, fun p => ?_, fun p => by omega, hr⟩
  · have := h6 i p1 (by omega)
    rw [u1_n (by omega)] at this
    exact this
  · have := (h6 t0 (by omega) (by omega)).1
    rw [u1_e] at this
    rw [show t0 + 0 = t0 by omega]; exact this
  · rw [r49, r50, r51, u1_n (by omega), u1_n (by omega), u1_n (by omega)]
    exact h10 i p1 p2
  · rw [r49, u1_n (by omega)]; exact h11 i p1 p2
  · rw [r49, show cB 188 40 + q = cA 48 6 by omega, u1_e]
theorem SeC_addO (h : SeC S cA cB (t0 + 1) (q_u1 bs t0 22) dep q pa 0 D) (h0 : 0 ≤ t0) (hD : 2 ≤ D) (hx : cA 48 6 + 1 ≤ 2 * cB 188 41) : SeC S (adS cA (cA 48 6) 10 0 0) cB t0 bs dep q pa 1 (D - 1) := by
  obtain ⟨h1, h2, h3, h4, h5, h6, h7, h8, h9, h10, h11, h12, h13, h14⟩ := h
  have hr := RPc_add (k := 10) (sg := 0) (n := 0) h14 (by omega) (D - 1) (by omega)
  have r51 : adS cA (cA 48 6) 10 0 0 51 = q_u1 (cA 51) (cA 48 6) 0 := adS_51
  have r50 : adS cA (cA 48 6) 10 0 0 50 = q_u1 (cA 50) (cA 48 6) 0 := adS_50
  have r49 : adS cA (cA 48 6) 10 0 0 49 = q_u1 (cA 49) (cA 48 6) 10 := adS_49
  have r6 : adS cA (cA 48 6) 10 0 0 48 6 = cA 48 6 + 1 := adS_6
  have r8 : adS cA (cA 48 6) 10 0 0 48 8 = cA 48 8 := adS_48 (by omega)
  generalize adS cA (cA 48 6) 10 0 0 = cA' at *
  refine ⟨by rw [r8]; exact h1, by rw [r6]; omega, by omega, by omega, by omega, fun i p1 p2 => ?_, fun i p1 p2 => h7 i (by omega) (by omega), fun p => ?_, fun p => ?_, fun i p1 p2 => ?_, fun i p1 p2 => ?_, fun p => ?_, fun p => ?_, hr⟩
  · have := h6 i p1 (by omega)
    rw [u1_n (by omega)] at this
    exact this
  · have := h8 p
    rw [show t0 + 1 + 0 = t0 + 1 by omega] at this
    exact this
  · have := (h6 t0 (by omega) (by omega)).1
    rw [u1_e] at this
    exact this
  · rw [r49, r50, r51, u1_n (by omega), u1_n (by omega), u1_n (by omega)]
    exact h10 i p1 p2
  · rw [r49, u1_n (by omega)]; exact h11 i p1 p2
  · rw [r49, u1_n (by omega)]; exact h12 p
  · rw [r49, show cB 188 40 + q + pa = cA 48 6 by omega, u1_e]
theorem SeC_leaf (h : SeC S cA cB t0 bs dep 0 0 0 D) (hx : cA 48 6 + 1 ≤ 2 * cB 188 41) (hk : k = 7 ∨ 13 ≤ k) (hc : CdR S k sg n w s0 u) (e40 : cB' 188 40 = cB 188 40 + 1) (e41 : cB' 188 41 = cB 188 41) (e42 : cB' 188 42 = cB 188 42) (e43 : cB' 188 43 = cB 188 43) (e206 : cB' 206 = cB 206) (e192 : ∀ i, (i < 3 * cB 188 40 ∨ 3 * cB 188 40 + 2 < i) → cB' 192 i = cB 192 i) (w0 : cB' 192 (3 * cB 188 40) = w) (w1 : cB' 192 (3 * cB 188 40 + 1) = s0) (w2 : cB' 192 (3 * cB 188 40 + 2) = u) : SeC S (adS cA (cA 48 6) k sg n) cB' t0 bs dep 0 0 0 (D + 1) := by
  obtain ⟨h1, h2, h3, h4, h5, h6, h7, h8, h9, h10, h11, h12, h13, h14⟩ := h
  have hr := RPc_add (k := k) (sg := sg) (n := n) h14 (by omega) (D + 1) (by omega)
  have r51 : adS cA (cA 48 6) k sg n 51 = q_u1 (cA 51) (cA 48 6) n := adS_51
  have r50 : adS cA (cA 48 6) k sg n 50 = q_u1 (cA 50) (cA 48 6) sg := adS_50
  have r49 : adS cA (cA 48 6) k sg n 49 = q_u1 (cA 49) (cA 48 6) k := adS_49
  have r6 : adS cA (cA 48 6) k sg n 48 6 = cA 48 6 + 1 := adS_6
  have r8 : adS cA (cA 48 6) k sg n 48 8 = cA 48 8 := adS_48 (by omega)
  generalize adS cA (cA 48 6) k sg n = cA' at *
  have e6 : cA 48 6 = cB 188 40 := by omega
  unfold SeC
  rw [e40, e41, e42, e43, e206]
  refine ⟨by rw [r8]; exact h1, by rw [r6]; omega, by omega, by omega, by omega, h6, fun i p1 p2 => by omega, fun p => by omega, fun p => by omega, fun i p1 p2 => ?_, fun i p1 p2 => by omega, fun p => by omega, fun p => by omega, hr⟩
  rw [r49, r50, r51, e6]
  by_cases hi : i = cB 188 40
  · rw [hi, u1_e, u1_e, u1_e, w0, w1, w2]; exact hc
  · rw [u1_n hi, u1_n hi, u1_n hi, e192 (3 * i) (by omega), e192 (3 * i + 1) (by omega), e192 (3 * i + 2) (by omega)]
    exact h10 i p1 (by omega)
end SPse
