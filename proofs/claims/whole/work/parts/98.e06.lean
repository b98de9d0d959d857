section SPsa
variable {d : Nat} {G : GG} {c c' cA cB cA' cB' : CC} {Q : Option AV → HH → Prop} {v1 v2 v3 v4 n i j k m v s : Int} {S : SS}
def cmpV (s0 m v : Int) : Int := if s0 = 60 then (if v < m then 1 else 0) else if s0 = 61 then (if v = m then 1 else 0) else (if m < v then 1 else 0)
def lfV (S : SS) (s w s0 m : Int) : Int := if w = 0 then (if S (173 + s) = 0 then 1 else 0) else if w = 1 then (if S (173 + s) = m + 1 then 1 else 0) else if w = 2 then (if 0 < S (205 + 8 * s + m) then 1 else 0) else cmpV s0 m (if w = 3 then dbtF S s else if w = 4 then dueF S s else if w = 5 then S (189 + s) else if w = 6 then S (181 + s) else s)
theorem cmpV_01 {s0 m v : Int} : cmpV s0 m v = 0 ∨ cmpV s0 m v = 1 := by unfold cmpV; omega
theorem lfV_01 {w s0 m : Int} : lfV S s w s0 m = 0 ∨ lfV S s w s0 m = 1 := by
  have := cmpV_01 (s0 := s0) (m := m) (v := if w = 3 then dbtF S s else if w = 4 then dueF S s else if w = 5 then S (189 + s) else if w = 6 then S (181 + s) else s)
  unfold lfV
  omega
def tst (S : SS) (s i : Int) (p : Int × (Int → Int)) : Int × (Int → Int) :=
  if S (334 + 3 * i) = 20 then (p.1, q_u1 p.2 (p.1 - 1) (1 - p.2 (p.1 - 1)))
  else if S (334 + 3 * i) = 21 then (p.1 - 1, q_u1 p.2 (p.1 - 2) (if p.2 (p.1 - 2) = 1 ∧ p.2 (p.1 - 1) = 1 then 1 else 0))
  else if S (334 + 3 * i) = 22 then (p.1 - 1, q_u1 p.2 (p.1 - 2) (if p.2 (p.1 - 2) = 1 ∨ p.2 (p.1 - 1) = 1 then 1 else 0))
  else (p.1 + 1, q_u1 p.2 p.1 (lfV S s (S (334 + 3 * i)) (S (335 + 3 * i)) (S (336 + 3 * i))))
def trF (S : SS) (s n : Int) : Int × (Int → Int) := loopI (tst S s) n (0, fun _ => 0)
def CdW (S : SS) : Prop := ∀ i, 0 ≤ i → i < S 333 → (0 ≤ S (334 + 3 * i) ∧ S (334 + 3 * i) ≤ 7 ∨ 20 ≤ S (334 + 3 * i) ∧ S (334 + 3 * i) ≤ 22) ∧ (S (334 + 3 * i) = 1 → 0 ≤ S (336 + 3 * i) ∧ S (336 + 3 * i) < S 0) ∧ (S (334 + 3 * i) = 2 → 0 ≤ S (336 + 3 * i) ∧ S (336 + 3 * i) < S 1) ∧ (3 ≤ S (334 + 3 * i) → S (334 + 3 * i) ≤ 7 → 60 ≤ S (335 + 3 * i) ∧ S (335 + 3 * i) ≤ 62 ∧ 0 ≤ S (336 + 3 * i) ∧ S (336 + 3 * i) ≤ 999)
theorem dp_b {dp : Int → Int} (hw : CdW S) (h : RPN S dp) : ∀ i, 0 ≤ i → i ≤ S 333 → 0 ≤ dp i ∧ dp i ≤ i := by
  refine int_up ?_ ?_
  · have := h.1; omega
  · intro i h1 h2 h3
    have h4 := h.2.2 i h1 h2
    have h5 := (hw i h1 h2).1
    by_cases e : S (334 + 3 * i) < 20
    · have := h4.1 e; omega
    · by_cases e2 : S (334 + 3 * i) = 20
      · have := h4.2.1 e2; omega
      · have := h4.2.2 (by omega); omega
theorem tr_inv {dp : Int → Int} (hw : CdW S) (h : RPN S dp) : ∀ i, 0 ≤ i → i ≤ S 333 → (trF S s i).1 = dp i ∧ ∀ j, (trF S s i).2 j = 0 ∨ (trF S s i).2 j = 1 := by
  refine int_up ?_ ?_
  · rw [show trF S s 0 = (0, fun _ => 0) from loopI_0 (by omega)]
    exact ⟨h.1.symm, fun j => Or.inl rfl⟩
  · intro i h1 h2 ⟨h3, h4⟩
    rw [show trF S s (i + 1) = tst S s i (trF S s i) from loopI_s h1]
    have h5 := h.2.2 i h1 h2
    have h6 := (hw i h1 h2).1
    have u01 : ∀ (f : Int → Int) (a b : Int), (∀ j, f j = 0 ∨ f j = 1) → (b = 0 ∨ b = 1) → ∀ j, q_u1 f a b j = 0 ∨ q_u1 f a b j = 1 := fun f a b hf hb j => by
      by_cases e : j = a
      · rw [e, u1_e]; exact hb
      · rw [u1_n e]; exact hf j
    unfold tst
    by_cases e0 : S (334 + 3 * i) = 20
    · rw [if_pos e0]
      exact ⟨by show (trF S s i).1 = _; rw [(h5.2.1 e0).2]; exact h3, u01 _ _ _ h4 (by have := h4 ((trF S s i).1 - 1); omega)⟩
    · rw [if_neg e0]
      by_cases e1 : S (334 + 3 * i) = 21
      · rw [if_pos e1]
        exact ⟨by show (trF S s i).1 - 1 = _; rw [(h5.2.2 (by omega)).2, h3], u01 _ _ _ h4 (by split <;> omega)⟩
      · rw [if_neg e1]
        by_cases e2 : S (334 + 3 * i) = 22
        · rw [if_pos e2]
          exact ⟨by show (trF S s i).1 - 1 = _; rw [(h5.2.2 (by omega)).2, h3], u01 _ _ _ h4 (by split <;> omega)⟩
        · rw [if_neg e2]
          exact ⟨by show (trF S s i).1 + 1 = _; rw [(h5.1 (by omega)).2, h3], u01 _ _ _ h4 lfV_01⟩
theorem SnR_w {e : Nat} (h : SnR c e S) (ht : c e 7 = 1) : CdW S := by
  obtain ⟨g1, g2, g3, g4, -⟩ := h.2.2 ht
  intro i p q
  have := g4 i p q
  unfold CdR at this
  omega
theorem r_isLeaf (hG : Shp G) (hS : GS (c 190)) (h0 : 0 ≤ v1 ∧ v1 < 8) {w s0 m : Int} (hw : 0 ≤ w ∧ w ≤ 7) (h1 : w = 1 → 0 ≤ m ∧ m < 8) (h2 : w = 2 → 0 ≤ m ∧ m < 8) (h3 : 3 ≤ w → 60 ≤ s0 ∧ s0 ≤ 62 ∧ 0 ≤ m ∧ m ≤ 999) (hz : Q (some (aI (lfV (c 190) v1 w s0 m))) (G, c)) : TM (d + 1) 259 [aR 188, aI v1, aI w, aI s0, aI m] (G, c) Q := by
  have hI := hS.2.1
  have hi := hI.1 v1 h0.1 h0.2
  have hb := hS.2.2.1.2.2.1 v1 h0.1 h0.2
  have h9 := hS.2.2.2
  have g := hS.1.1
  have cmp : ∀ v, I32 v → 60 ≤ s0 ∧ s0 ≤ 62 ∧ 0 ≤ m ∧ m ≤ 999 → Q (some (aI (cmpV s0 m v))) (G, c) → T (d + 1) 259 145 [none, none, none, some (aI s0), some (aI m), none] [aI v] (G, c) (QM Q) := by
    intro v hv hs hz
    unfold cmpV at hz
    refine b259_145 hG TM_eqo (by intros; omega) (by intros; omega) (by intros; omega) ?_ ?_ (by intros; omega) (by intros; omega) ?_ ?_ (by intros; omega) (by intros; omega) ?_ ?_
    · intro p1 p2 p3
      refine b259_201 hG (by intros; omega) ?_
      rw [if_neg p1, if_neg p2, if_neg (by omega)] at hz; exact hz
    · intro p1 p2 p3
      refine b259_201 hG (by intros; omega) ?_
      rw [if_neg p1, if_neg p2, if_pos (by omega)] at hz; exact hz
    · intro p1 p2 p3
      refine b259_201 hG (by intros; omega) ?_
      rw [if_neg p1, if_pos p2, if_neg (by omega)] at hz; exact hz
    · intro p1 p2 p3
      refine b259_201 hG (by intros; omega) ?_
      rw [if_neg p1, if_pos p2, if_pos (by omega)] at hz; exact hz
    · intro p1 p2
      refine b259_201 hG (by intros; omega) ?_
      rw [if_pos p1, if_neg (by omega)] at hz; exact hz
    · intro p1 p2
      refine b259_201 hG (by intros; omega) ?_
      rw [if_pos p1, if_pos (by omega)] at hz; exact hz
  unfold lfV at hz
  have dd := fun (hm : 0 ≤ m ∧ m < 8) => d_at hI (x := v1) (y := m) h0.1 h0.2 hm.1 hm.2
  refine b259_0 hG TM_eqo (by intros; first | omega | (have hd2 := dd (h2 (by omega)); omega) | (have hm2 := h2 (by omega); omega) | (have hm1 := h1 (by omega); omega)) ?_ (by intros; first | omega | (have hd2 := dd (h2 (by omega)); omega) | (have hm2 := h2 (by omega); omega) | (have hm1 := h1 (by omega); omega)) (by intros; first | omega | (have hd2 := dd (h2 (by omega)); omega) | (have hm2 := h2 (by omega); omega) | (have hm1 := h1 (by omega); omega)) rfl ?_ (by intros; first | omega | (have hd2 := dd (h2 (by omega)); omega) | (have hm2 := h2 (by omega); omega) | (have hm1 := h1 (by omega); omega)) (by intros; first | omega | (have hd2 := dd (h2 (by omega)); omega) | (have hm2 := h2 (by omega); omega) | (have hm1 := h1 (by omega); omega)) rfl ?_ ?_ ?_ (by intros; first | omega | (have hd2 := dd (h2 (by omega)); omega) | (have hm2 := h2 (by omega); omega) | (have hm1 := h1 (by omega); omega)) (by intros; first | omega | (have hd2 := dd (h2 (by omega)); omega) | (have hm2 := h2 (by omega); omega) | (have hm1 := h1 (by omega); omega)) rfl (by intros; first | omega | (have hd2 := dd (h2 (by omega)); omega) | (have hm2 := h2 (by omega); omega) | (have hm1 := h1 (by omega); omega)) ?_ ?_ (by intros; first | omega | (have hd2 := dd (h2 (by omega)); omega) | (have hm2 := h2 (by omega); omega) | (have hm1 := h1 (by omega); omega)) (by intros; first | omega | (have hd2 := dd (h2 (by omega)); omega) | (have hm2 := h2 (by omega); omega) | (have hm1 := h1 (by omega); omega)) rfl (by intros; first | omega | (have hd2 := dd (h2 (by omega)); omega) | (have hm2 := h2 (by omega); omega) | (have hm1 := h1 (by omega); omega)) (by intros; first | omega | (have hd2 := dd (h2 (by omega)); omega) | (have hm2 := h2 (by omega); omega) | (have hm1 := h1 (by omega); omega)) ?_ ?_ (by intros; first | omega | (have hd2 := dd (h2 (by omega)); omega) | (have hm2 := h2 (by omega); omega) | (have hm1 := h1 (by omega); omega)) (by intros; first | omega | (have hd2 := dd (h2 (by omega)); omega) | (have hm2 := h2 (by omega); omega) | (have hm1 := h1 (by omega); omega)) rfl (by intros; first | omega | (have hd2 := dd (h2 (by omega)); omega) | (have hm2 := h2 (by omega); omega) | (have hm1 := h1 (by omega); omega)) ?_ ?_
  · intro p0 p1 p2 p3 p4 p5 p6
    rw [if_neg p0, if_neg p1, if_neg p2, if_neg p3, if_neg p4, if_neg p5, if_neg p6] at hz
    exact cmp _ (by omega) (h3 (by omega)) hz
  · intro p0 p1 p2 p3 p4 p5 p6
    rw [if_neg p0, if_neg p1, if_neg p2, if_neg p3, if_neg p4, if_neg p5, if_pos p6] at hz
    exact cmp _ (by omega) (h3 (by omega)) hz
  · intro p0 p1 p2 p3 p4 p5
    rw [if_neg p0, if_neg p1, if_neg p2, if_neg p3, if_neg p4, if_pos p5] at hz
    exact cmp _ (by omega) (h3 (by omega)) hz
  · intro p0 p1 p2 p3 p4
    rw [if_neg p0, if_neg p1, if_neg p2, if_neg p3, if_pos p4] at hz
    refine r_duesOf hG h0.1 h0.2 ?_
    have := due_b hI h0.1 h0.2
    refine b259_104 hG ?_
    exact cmp _ (by omega) (h3 (by omega)) hz
  · intro p0 p1 p2 p3
    rw [if_neg p0, if_neg p1, if_neg p2, if_pos p3] at hz
    refine r_debtsOf hG h0.1 h0.2 ?_
    have := dbt_b hI h0.1 h0.2
    refine b259_91 hG ?_
    exact cmp _ (by omega) (h3 (by omega)) hz
  · intro p0 p1 p2 p3
    rw [if_neg p0, if_neg p1, if_pos p2, if_neg (by omega)] at hz; exact hz
  · intro p0 p1 p2 p3
    rw [if_neg p0, if_neg p1, if_pos p2, if_pos (by omega)] at hz; exact hz
  · intro p0 p1 p2
    rw [if_neg p0, if_pos p1, if_neg p2] at hz; exact hz
  · intro p0 p1 p2
    rw [if_neg p0, if_pos p1, if_pos p2] at hz; exact hz
  · intro p0 p1
    rw [if_pos p0, if_neg p1] at hz; exact hz
  · intro p0 p1
    rw [if_pos p0, if_pos p1] at hz; exact hz
theorem nar_23 {v : Int} (h : v = 0 ∨ v = 1) : q_nar 23 v = v := by
  rcases h with rfl | rfl <;> rfl
theorem r_isSaid (hG : Shp G) (hS : GS (c 190)) (hw : CdW (c 190)) {dp : Int → Int} (hd : RPN (c 190) dp) (h40 : 1 ≤ c 190 333 ∧ c 190 333 ≤ 40) (h0 : 0 ≤ v1 ∧ v1 < 8) (hz : ∀ c', (∀ r, ¬ r = 207 → c' r = c r) → Q (some (aI ((trF (c 190) v1 (c 190 333)).2 0))) (G, c')) : TM (d + 2) 260 [aR 188, aI v1] (G, c) Q := by
  obtain ⟨S, hSe⟩ : ∃ S, S = c 190 := ⟨_, rfl⟩
  rw [← hSe] at hS hw hd h40 hz
  have g := hS.1.1
  refine b260_0 hG ?_
  have key : ∀ i, 0 ≤ i → i ≤ S 333 → ∀ c2 : CC, (∀ r, ¬ r = 207 → c2 r = c r) → (∀ j, 0 ≤ j → j < dp i → c2 207 j = (trF S v1 i).2 j) → T (d + 2) 260 4 [some (aR 188), some (aI v1), some (aI (dp i)), some (aI i), none] [] (G, c2) (QM Q) := by
    refine int_ind ?_ ?_
    · intro c2 fr hr
      have e190 : c2 190 = S := by rw [fr 190 (by omega), hSe]
      have t := tr_inv (s := v1) hw hd (S 333) (by omega) (by omega)
      have hd1 := hd.2.1
      have h207 := hr 0 (by omega) (by omega)
      have t0 := t.2 0
      have hz := hz c2 fr
      rw [← h207] at hz t0
      refine b260_4 hG TM_eqo (by rw [e190]) (by intros; omega) (by intros; omega) rfl (by intros; omega) ?_ (by intros; omega) (by intros; omega) rfl (by intros; omega) rfl (by intros; omega) ?_ rfl (by intros; omega) rfl (by intros; omega) (by intros; omega) rfl (by intros; omega) (by intros; omega) rfl ?_ ?_ (by intros; omega) (by intros; omega) rfl (by intros; omega) ?_ ?_
      · intro p; exact hz
      all_goals (intro p; omega)
    · intro i h1 h2 ih c2 fr hr
      have e190 : c2 190 = S := by rw [fr 190 (by omega), hSe]
      have hdb := dp_b hw hd i h1 (by omega)
      obtain ⟨w1, w2, w3, w4⟩ := hw i h1 h2
      have hdi := hd.2.2 i h1 h2
      obtain ⟨t1, t2⟩ := tr_inv (s := v1) hw hd i h1 (by omega)
      have es : trF S v1 (i + 1) = tst S v1 i (trF S v1 i) := loopI_s h1
      unfold tst at es
      rw [t1] at es
      rw [es] at ih
      generalize (trF S v1 i).2 = st at *
      have f1 : c2 190 (334 + 3 * i) = S (334 + 3 * i) := by rw [e190]
      have f2 : c2 190 ((334 + 3 * i) + 1) = S (335 + 3 * i) := by rw [e190]; congr 1; omega
      have f3 : c2 190 ((334 + 3 * i) + 2) = S (336 + 3 * i) := by rw [e190]; congr 1; omega
      have go : ∀ (c3 : CC) (n : Int), n = dp (i + 1) → (∀ r, ¬ r = 207 → c3 r = c2 r) → (∀ j, 0 ≤ j → j < n → c3 207 j = (trF S v1 (i + 1)).2 j) → T (d + 2) 260 206 [some (aR 188), some (aI v1), some (aI n), some (aI i), none] [] (G, c3) (QM Q) := by
        intro c3 n hn f4 h4
        refine b260_206 hG ?_
        rw [hn] at h4 ⊢
        rw [es] at h4
        exact ih c3 (fun r p => by rw [f4 r p]; exact fr r p) h4
      have f0 : c2 190 333 = S 333 := by rw [e190]
      have fa : 2 ≤ dp i → c2 207 (dp i + -1 - 1) = st (dp i - 2) := fun h => by rw [show dp i + -1 - 1 = dp i - 2 by omega]; exact hr _ (by omega) (by omega)
      have fb : 1 ≤ dp i → c2 207 (dp i + -1) = st (dp i - 1) := fun h => by rw [show dp i + -1 = dp i - 1 by omega]; exact hr _ (by omega) (by omega)
      have row : ∀ (a b : Int) (n : Int), n ≤ dp i ∨ (n = dp i + 1 ∧ a = dp i) → ∀ j, 0 ≤ j → j < n → (q_up c2 207 a b) 207 j = q_u1 st a b j := fun a b n hn j p q => by
        by_cases e : j = a
        · rw [e, up_e, u1_e]
        · rw [up_n (by omega), u1_n e]; exact hr j p (by omega)
      have two : 21 ≤ S (334 + 3 * i) → T (d + 2) 260 88 [some (aR 188), some (aI v1), some (aI (dp i)), some (aI i), some (aI (334 + 3 * i))] [] (G, c2) (QM Q) := by
        intro h21
        obtain ⟨q1, q2⟩ := hdi.2.2 (by omega)
        have fa := fa q1
        have fb := fb (by omega)
        have ta := t2 (dp i - 2)
        have tb := t2 (dp i - 1)
        have fin : ∀ b, b = (if S (334 + 3 * i) = 21 then (if st (dp i - 2) = 1 ∧ st (dp i - 1) = 1 then 1 else 0) else (if st (dp i - 2) = 1 ∨ st (dp i - 1) = 1 then 1 else 0)) → T (d + 2) 260 206 [some (aR 188), some (aI v1), some (aI (dp i + -1)), some (aI i), none] [] (G, q_up c2 207 (dp i + -1 - 1) (q_nar 23 b)) (QM Q) := by
          intro b hb
          have hb01 : b = 0 ∨ b = 1 := by rw [hb]; split <;> split <;> omega
          rw [nar_23 hb01, show dp i + -1 - 1 = dp i - 2 by omega]
          refine go _ _ (by omega) (fun r p => up_r p) (fun j p q => ?_)
          rw [row (dp i - 2) b (dp i + -1) (by omega) j p q, es, if_neg (show ¬ S (334 + 3 * i) = 20 by omega), hb]
          by_cases e : S (334 + 3 * i) = 21
          · rw [if_pos e, if_pos e]
          · rw [if_neg e, if_neg e, if_pos (show S (334 + 3 * i) = 22 by omega)]
        refine b260_88 hG TM_eqo (by intros; omega) (by intros; omega) (f1) (by intros; omega) (by intros; omega) (by intros; omega) (fa) (by intros; omega) ?_ (by intros; omega) (by intros; omega) (fb) (by intros; omega) ?_ ?_ (by intros; omega) (by intros; omega) (fa) (by intros; omega) ?_ (by intros; omega) (by intros; omega) (fb) (by intros; omega) ?_ ?_
        · intro p1 p2; exact fin 1 (by rw [if_neg p1, if_pos (by omega)])
        · intro p1 p2 p3; exact fin 0 (by rw [if_neg p1, if_neg (by omega)])
        · intro p1 p2 p3; exact fin 1 (by rw [if_neg p1, if_pos (by omega)])
        · intro p1 p2; exact fin 0 (by rw [if_pos p1, if_neg (by omega)])
        · intro p1 p2 p3; exact fin 0 (by rw [if_pos p1, if_neg (by omega)])
        · intro p1 p2 p3; exact fin 1 (by rw [if_pos p1, if_pos (by omega)])
      have fc : S (334 + 3 * i) = 20 → c2 207 (dp i - 1) = st (dp i - 1) := fun h => hr _ (by have := hdi.2.1 h; omega) (by omega)
      have tc := t2 (dp i - 1)
      have not_ : ∀ b, S (334 + 3 * i) = 20 → b = 1 - st (dp i - 1) → T (d + 2) 260 206 [some (aR 188), some (aI v1), some (aI (dp i)), some (aI i), none] [] (G, q_up c2 207 (dp i - 1) (q_nar 23 b)) (QM Q) := by
        intro b h20 hb
        have := hdi.2.1 h20
        rw [nar_23 (by omega)]
        refine go _ _ (by omega) (fun r p => up_r p) (fun j p q => ?_)
        rw [row (dp i - 1) b (dp i) (by omega) j p q, es, if_pos h20, hb]
      refine b260_4 hG TM_eqo (f0) (by intros; first | omega | (have h20 := fc (by omega); omega)) (by intros; first | omega | (have h20 := fc (by omega); omega)) rfl (by intros; first | omega | (have h20 := fc (by omega); omega)) ?_ (by intros; first | omega | (have h20 := fc (by omega); omega)) (by intros; first | omega | (have h20 := fc (by omega); omega)) (f1) (by intros; first | omega | (have h20 := fc (by omega); omega)) (f1) (by intros; first | omega | (have h20 := fc (by omega); omega)) ?_ (f1) (by intros; first | omega | (have h20 := fc (by omega); omega)) (f1) (by intros; first | omega | (have h20 := fc (by omega); omega)) (by intros; first | omega | (have h20 := fc (by omega); omega)) (f2) (by intros; first | omega | (have h20 := fc (by omega); omega)) (by intros; first | omega | (have h20 := fc (by omega); omega)) (f3) ?_ ?_ (by intros; first | omega | (have h20 := fc (by omega); omega)) (by intros; first | omega | (have h20 := fc (by omega); omega)) rfl (by intros; first | omega | (have h20 := fc (by omega); omega)) ?_ ?_
      · intro p1; omega
      · intro p1 p2 p3; exact two (by omega)
      · intro p1 p2 p3 p4
        obtain ⟨q1, q2⟩ := hdi.1 (by omega)
        refine r_isLeaf hG (by rw [e190]; exact hS) h0 (by omega) (fun h => by have := w2 h; omega) (fun h => by have := w3 h; omega) (fun h => w4 h (by omega)) ?_
        rw [e190]
        have l01 := lfV_01 (S := S) (s := v1) (w := S (334 + 3 * i)) (s0 := S (335 + 3 * i)) (m := S (336 + 3 * i))
        refine b260_202 hG (by intros; omega) (by intros; omega) ?_
        rw [nar_23 l01]
        refine go _ _ (by omega) (fun r p => up_r p) (fun j p q => ?_)
        rw [row (dp i) _ (dp i + 1) (by omega) j p q, es, if_neg p2, if_neg p3, if_neg p4]
      · intro p1 p2 p3 p4; exact two (by omega)
      · intro p1 p2 p3
        exact not_ 0 p2 (by have := fc p2; omega)
      · intro p1 p2 p3
        exact not_ 1 p2 (by have := fc p2; omega)
  have k0 := key 0 (by omega) (by omega) c (fun _ _ => rfl) (fun j p q => by rw [hd.1] at q; omega)
  rw [hd.1] at k0
  exact k0
end SPsa
