section SPtd
variable {d r n0 : Nat} {G : GG} {c c' : CC} {Q : Option AV → HH → Prop} {v v1 v2 N k p len most stop a b w : Int} {j : Nat} {B f : Int → Int}
def FlB (c c' : CC) (k p : Int) : Prop := (∀ r, ¬ r = 188 → c' r = c r) ∧ (∀ i, ¬ i = 15 → ¬ i = 16 → ¬ i = 18 → c' 188 i = c 188 i) ∧ c' 188 15 = k ∧ c' 188 16 = p
theorem r_bad (hG : Shp G) (h : RT c B len most stop j) (hz : ∀ c', FlB c c' v (pP B len stop j) → Q (some (aI 0)) (G, c')) : TM d 173 [aR 188, aI v] (G, c) Q := by
  have e : c 188 12 = pP B len stop j := h.1.2.1
  refine b173_0 hG (up_n (by omega)) ?_
  refine hz _ ⟨fun r h => by rw [up_r h, up_r h], fun i h1 h2 h3 => by rw [up_n (by omega), up_n (by omega)], by rw [up_n (by omega), up_e], ?_⟩
  rw [up_e]
  exact e
theorem RT_tok (hW : Wt B len most stop) (h : RT c B len most stop j) : ((zS B len stop j = 0 ∧ ¬ most < len) ↔ c 188 11 = 0) ∧ (zS B len stop j = 4 ↔ c 188 11 = 3) ∧ (c 188 11 = 3 → c 188 14 = pN B len stop j) ∧ (zS B len stop j = 3 ↔ c 188 11 = 2) ∧ (c 188 11 = 2 → c 188 14 = pN B len stop j) ∧ ((zS B len stop j = 1 ∨ zS B len stop j = 2) ↔ c 188 11 = 1) ∧ (c 188 11 = 1 → NmR (pW B len stop j) (c 188 17)) := by
  obtain ⟨w1, w2, w3, w4, w5⟩ := hW
  exact tok_iff w4.2 (fun h => by rw [if_pos h] at w3; exact w3) (fun h => by rw [if_neg h] at w3; exact w3) h.1
theorem RT_key (hW : Wt B len most stop) (h : RT c B len most stop j) (h1 : 0 ≤ k) (h2 : k < 20) : (zS B len stop j = 2 ∧ pN B len stop j = k) ↔ (c 188 11 = 1 ∧ c 188 17 = rsvF k) := key_iff hW.2.2.2.1.2 h.1 h1 h2
theorem RT_11 (h : RT c B len most stop j) : 0 ≤ c 188 11 ∧ c 188 11 ≤ 4 := by
  rw [h.1.1]
  unfold rS
  by_cases hq : PP B len stop j < stop
  · rw [if_pos hq]
    by_cases hr : (97 ≤ B (PP B len stop j) ∧ B (PP B len stop j) ≤ 122) ∨ (48 ≤ B (PP B len stop j) ∧ B (PP B len stop j) ≤ 57)
    · rw [if_pos hr]
      have := rR_b (B := B) (q := PP B len stop j) (k := tKn B len (PP B len stop j))
      omega
    · rw [if_neg hr]
      have e : sgF (B (PP B len stop j)) = 4 ∨ sgF (B (PP B len stop j)) = 5 := by unfold sgF; split <;> omega
      split <;> omega
  · rw [if_neg hq]
    split <;> omega
theorem rsv_b (h1 : 0 ≤ k) (h2 : k < 20) : 0 ≤ rsvF k ∧ rsvF k < 72057594037927936 := (NmR_b (keyR k h1 h2)).2
theorem r_isWord (hG : Shp G) (hW : Wt B len most stop) (h : RT c B len most stop j) (k : Int) (h1 : 0 ≤ k) (h2 : k < 20) (hw : w = rsvF k) (hz : Q (some (aI (if zS B len stop j = 2 ∧ pN B len stop j = k then 1 else 0))) (G, c)) : TM d 174 [aR 188, aL w] (G, c) Q := by
  have t := RT_tok hW h
  have u := RT_key hW h h1 h2
  have b := RT_11 h
  have rb := rsv_b h1 h2
  rw [← hw] at u rb
  clear hw
  by_cases h11 : c 188 11 = 1
  · have nb := NmR_b (t.2.2.2.2.2.2 h11)
    by_cases he : c 188 17 = w
    · rw [if_pos (u.mpr ⟨h11, he⟩)] at hz
      clear u t
      refine b174_0 hG rfl (by intros; omega) ?_ rfl (by intros; omega) (by intros; omega) (by intros; omega) ?_ ?_
      · intro q; omega
      · intro q q2; exfalso; rw [if_neg (by omega), if_pos he] at q2; exact q2 rfl
      · intro q q2; exact hz
    · rw [if_neg (fun x => he (u.mp x).2)] at hz
      clear u t
      refine b174_0 hG rfl (by intros; omega) ?_ rfl (by intros; omega) (by intros; omega) (by intros; omega) ?_ ?_
      · intro q; omega
      · intro q q2; exact hz
      · intro q q2; exfalso; rw [if_neg he] at q2; split at q2 <;> omega
  · rw [if_neg (fun x => h11 (u.mp x).1)] at hz
    clear u t
    refine b174_0 hG rfl (by intros; omega) ?_ rfl (by intros; omega) (by intros; omega) (by intros; omega) ?_ ?_
    · intro q; exact hz
    · intro q; omega
    · intro q; omega
theorem r_isSgn (hG : Shp G) (hW : Wt B len most stop) (h : RT c B len most stop j) (hv : I32 v) (hz : Q (some (aI (if zS B len stop j = 4 ∧ pN B len stop j = v then 1 else 0))) (G, c)) : TM d 175 [aR 188, aI v] (G, c) Q := by
  obtain ⟨t1, t2, t3, -⟩ := RT_tok hW h
  have b := RT_11 h
  have pb := p_b hW j
  by_cases h3 : c 188 11 = 3
  · have t3 := t3 h3
    have t2 := t2.mpr h3
    refine b175_0 hG rfl (by intros; omega) ?_ rfl (by intros; omega) (by intros; omega) ?_ ?_
    · intro q; omega
    · intro q q2; rw [if_neg (by omega)] at hz; exact hz
    · intro q q2; rw [if_pos (by omega)] at hz; exact hz
  · have t2 : ¬ zS B len stop j = 4 := fun x => h3 (t2.mp x)
    rw [if_neg (by omega)] at hz
    clear t1 t3
    refine b175_0 hG rfl (by intros; omega) ?_ rfl (by intros; omega) (by intros; omega) ?_ ?_
    · intro q; exact hz
    · intro q; omega
    · intro q; omega
theorem r_sign (hG : Shp G) (hW : Wt B len most stop) (h : RT c B len most stop j) (hv : I32 v) (hz : zS B len stop j = 4 ∧ pN B len stop j = v → ∀ c', FrN c c' → RT c' B len most stop (j + 1) → Q (some (aI 1)) (G, c')) (hf : ¬ (zS B len stop j = 4 ∧ pN B len stop j = v) → ∀ c', FlB c c' 1 (pP B len stop j) → Q (some (aI 0)) (G, c')) : TM (d + 2) 176 [aR 188, aI v] (G, c) Q := by
  refine b176_0 hG TM_eqo ?_
  refine r_isSgn hG hW h hv ?_
  by_cases hc : zS B len stop j = 4 ∧ pN B len stop j = v
  · rw [if_pos hc]
    refine b176_5 hG TM_eqo (by intros; omega) ?_ ?_
    · intro q
      refine r_advance hG h hW.1 hW.2.1 hW.2.2.1 (fun c' f1 f2 => ?_)
      refine b176_18 hG ?_
      exact hz hc c' f1 f2
    · intro q; omega
  · rw [if_neg hc]
    refine b176_5 hG TM_eqo (by intros; omega) ?_ ?_
    · intro q; omega
    · intro q
      refine r_bad hG h (fun c' f1 => ?_)
      refine b176_13 hG (Or.inl rfl) ?_
      exact hf hc c' f1
theorem r_isName (hG : Shp G) (hW : Wt B len most stop) (h : RT c B len most stop j) (hr : ∀ i, 0 ≤ i → i < 20 → c 194 i = rsvF i) (hz : Q (some (aI (if zS B len stop j = 1 then 1 else 0))) (G, c)) : TM d 177 [aR 188] (G, c) Q := by
  obtain ⟨t1, t2, t3, t4, t5, t6, t7⟩ := RT_tok hW h
  have b := RT_11 h
  have pb := p_b hW j
  have zero : ∀ i, 0 ≤ i → i ≤ 20 → ¬ zS B len stop j = 1 → T d 177 16 [some (aR 188), some (aI 0), some (aI i)] [] (G, c) (QM Q) := by
    intro i h1 h2 hn
    rw [if_neg hn] at hz
    clear t1 t2 t3 t4 t5 t6 t7
    revert i
    refine int_ind ?_ ?_
    · refine b177_16 hG (by intros; omega) (by intros; exact Or.inl rfl) ?_ (by intros; omega) ?_ rfl (by intros; omega) (by intros; omega) rfl (by intros; omega) (by intros; omega) (by intros; omega) ?_ ?_
      · intro q; exact hz
      all_goals intros
      all_goals omega
    · intro i h3 h4 ih
      have e := hr i h3 h4
      refine b177_16 hG (by intros; omega) (by intros; exact Or.inl rfl) ?_ (by intros; omega) ?_ rfl (by intros; omega) (by intros; omega) rfl (by intros; omega) (by intros; omega) (by intros; omega) ?_ ?_
      · intro q; omega
      · intro q q2; exact ih
      all_goals intros
      all_goals omega
  by_cases h11 : c 188 11 = 1
  · have h7 := t7 h11
    have nb := NmR_b h7
    have one : ∀ i, 0 ≤ i → i ≤ 20 → (∀ k, 0 ≤ k → k < i → ¬ c 188 17 = rsvF k) → T d 177 16 [some (aR 188), some (aI 1), some (aI i)] [] (G, c) (QM Q) := by
      refine int_ind ?_ ?_
      · intro hk
        have h1 : zS B len stop j = 1 := by
          by_cases g : zS B len stop j = 1
          · exact g
          · have g2 : zS B len stop j = 2 := by have := t6.mpr h11; omega
            have g3 := pb.2.2.2.1 g2
            exact absurd ((RT_key hW h g3.1 g3.2).mp ⟨g2, rfl⟩).2 (hk _ g3.1 g3.2)
        rw [if_pos h1] at hz
        refine b177_16 hG (by intros; omega) (by intros; exact Or.inr rfl) ?_ (by intros; omega) ?_ rfl (by intros; omega) (by intros; omega) rfl (by intros; omega) (by intros; omega) (by intros; omega) ?_ ?_
        · intro q; exact hz
        all_goals intros
        all_goals omega
      · intro i h3 h4 ih hk
        have e := hr i h3 h4
        have rb := rsv_b h3 h4
        rw [← e] at rb
        have u := RT_key hW h h3 h4
        rw [← e] at u
        have z := zero (i + 1) (by omega) (by omega)
        clear zero hr t1 t2 t3 t4 t5 t6 t7
        by_cases he : c 188 17 = c 194 i
        · have hn : ¬ zS B len stop j = 1 := fun x => by have := (u.mpr ⟨h11, he⟩).1; omega
          clear u
          refine b177_16 hG (by intros; omega) (by intros; exact Or.inr rfl) ?_ (by intros; omega) ?_ rfl (by intros; omega) (by intros; omega) rfl (by intros; omega) (by intros; omega) (by intros; omega) ?_ ?_
          · intro q; omega
          · intro q q2; omega
          · intro q q2 q3; exact z hn
          · intro q q2 q3; exfalso; rw [if_neg (by omega), if_pos he] at q3; exact q3 rfl
        · have nx := ih (fun k g1 g2 => by
            by_cases g : k = i
            · rw [g, ← e]; exact he
            · exact hk k g1 (by omega))
          clear u
          refine b177_16 hG (by intros; omega) (by intros; exact Or.inr rfl) ?_ (by intros; omega) ?_ rfl (by intros; omega) (by intros; omega) rfl (by intros; omega) (by intros; omega) (by intros; omega) ?_ ?_
          · intro q; omega
          · intro q q2; omega
          · intro q q2 q3; exfalso; rw [if_neg he] at q3; split at q3 <;> omega
          · intro q q2 q3; exact nx
    have o := one 0 (by omega) (by omega) (fun k g1 g2 => by omega)
    clear one zero hr hz t1 t2 t3 t4 t5 t6 t7
    refine b177_0 hG rfl (by intros; omega) ?_ ?_
    · intro q; omega
    · intro q; exact o
  · have hn : ¬ zS B len stop j = 1 := fun x => h11 (t6.mp (Or.inl x))
    have z := zero 0 (by omega) (by omega) hn
    clear zero hr hz t1 t2 t3 t4 t5 t6 t7
    refine b177_0 hG rfl (by intros; omega) ?_ ?_
    · intro q; exact z
    · intro q; omega
theorem r_find (hG : Shp G) (hW : Wt B len most stop) (h : RT c B len most stop j) (h1 : zS B len stop j = 1) (h0 : 0 ≤ v ∧ 0 ≤ N ∧ v + N ≤ 28) (hF : ∀ i, 0 ≤ i → i < N → NmR (f i) (c 193 (v + i))) (hz : Q (some (aI (pF B len stop j f N))) (G, c)) : TM d 179 [aR 188, aI v, aI N] (G, c) Q := by
  obtain ⟨t1, t2, t3, t4, t5, t6, t7⟩ := RT_tok hW h
  have h7 := t7 (t6.mp (Or.inl h1))
  have nb := NmR_b h7
  have e : pF B len stop j f N = plN (fun i => c 193 (v + i)) (c 188 17) N.toNat 0 := plN_eq (f := f) (g := fun i => c 193 (v + i)) N (fun i g1 g2 => hF i g1 g2) h7 N.toNat 0 (by omega) (by omega)
  rw [e] at hz
  clear e t1 t2 t3 t4 t5 t6 t7
  have key : ∀ (n : Nat) (i : Int), 0 ≤ i → i + n = N → Q (some (aI (plN (fun i => c 193 (v + i)) (c 188 17) n i))) (G, c) → T d 179 2 [some (aR 188), some (aI v), some (aI N), some (aI i)] [] (G, c) (QM Q) := by
    intro n
    induction n with
    | zero =>
      intro i g1 g2 hz
      refine b179_2 hG (by intros; omega) (by omega) ?_ (by intros; omega) (by intros; omega) rfl rfl (by intros; omega) (by intros; omega) (by intros; omega) ?_ ?_
      · intro q; exact hz
      all_goals intros
      all_goals omega
    | succ n ih =>
      intro i g1 g2 hz
      unfold plN at hz
      have rb := NmR_b (hF i g1 (by omega))
      by_cases he : c 193 (v + i) = c 188 17
      · rw [if_pos he] at hz
        refine b179_2 hG (by intros; omega) (by intros; omega) ?_ (by intros; omega) (by intros; omega) rfl rfl (by intros; omega) (by intros; omega) (by intros; omega) ?_ ?_
        · intro q; omega
        · intro q q2; exfalso; rw [if_neg (by omega), if_pos he] at q2; exact q2 rfl
        · intro q q2; exact hz
      · rw [if_neg he] at hz
        have nx := ih (i + 1) (by omega) (by omega) hz
        refine b179_2 hG (by intros; omega) (by intros; omega) ?_ (by intros; omega) (by intros; omega) rfl rfl (by intros; omega) (by intros; omega) (by intros; omega) ?_ ?_
        · intro q; omega
        · intro q q2; exact nx
        · intro q q2; exfalso; rw [if_neg he] at q2; split at q2 <;> omega
  refine b179_0 hG ?_
  exact key N.toNat 0 (by omega) (by omega) hz
def FrG (c c' : CC) : Prop := (∀ r, ¬ r = 188 → c' r = c r) ∧ ∀ i, ¬ i = 4 → ¬ i = 11 → ¬ i = 12 → ¬ i = 13 → ¬ i = 14 → ¬ i = 17 → ¬ i = 18 → c' 188 i = c 188 i
theorem RT_up {i : Int} (h : RT c B len most stop j) (hi : i = 18 ∨ i = 19 ∨ i = 20 ∨ (35 ≤ i)) : RT (q_up c 188 i v) B len most stop j := by
  obtain ⟨⟨a1, a2, a3, a4, a5, a6, a7⟩, hB, e3, e5⟩ := h
  refine ⟨⟨?_, ?_, ?_, ?_, ?_, ?_, ?_⟩, fun i p1 p2 => by rw [up_n (by omega)]; exact hB i p1 p2, by rw [up_n (by omega)]; exact e3, by rw [up_n (by omega)]; exact e5⟩
  · rw [up_n (by omega)]; exact a1
  · rw [up_n (by omega)]; exact a2
  · rw [up_n (by omega)]; exact a3
  · rw [up_n (by omega)]; exact a4
  · rw [up_n (by omega)]; exact a5
  · rw [up_n (by omega)]; exact a6
  · rw [up_n (by omega)]; exact a7
theorem RT_row {r : Nat} {i : Int} (h : RT c B len most stop j) (h1 : ¬ r = 188) (h2 : ¬ r = 189) : RT (q_up c r i v) B len most stop j := by
  obtain ⟨a, hB, e3, e5⟩ := h
  refine ⟨?_, fun i p1 p2 => by rw [up_n (by omega)]; exact hB i p1 p2, by rw [up_n (by omega)]; exact e3, by rw [up_n (by omega)]; exact e5⟩
  unfold RQ
  rw [up_r (by omega)]
  exact a
theorem r_takes (hG : Shp G) (hW : Wt B len most stop) (h : RT c B len most stop j) (hv1 : I32 v1) (hv2 : I32 v2) (hz : zS B len stop j = 3 → v1 ≤ pN B len stop j → pN B len stop j ≤ v2 → ∀ c', FrG c c' → RT c' B len most stop (j + 1) → c' 188 18 = pN B len stop j → Q (some (aI 1)) (G, c')) (hf : ¬ (zS B len stop j = 3 ∧ v1 ≤ pN B len stop j ∧ pN B len stop j ≤ v2) → ∀ c', FlB c c' (fN (zS B len stop j)) (pP B len stop j) → Q (some (aI 0)) (G, c')) : TM (d + 2) 178 [aR 188, aI v1, aI v2] (G, c) Q := by
  obtain ⟨t1, t2, t3, t4, t5, t6, t7⟩ := RT_tok hW h
  have b := RT_11 h
  have pb := p_b hW j
  by_cases h3 : zS B len stop j = 3
  · have h11 := t4.mp h3
    have h14 := t5 h11
    rw [show fN (zS B len stop j) = 2 from if_pos h3] at hf
    clear t1 t2 t3 t4 t5 t6 t7
    refine b178_0 hG TM_eqo rfl (by intros; omega) rfl ?_ ?_
    · intro q
      refine r_isIn hG (by omega) hv1 hv2 ?_
      rw [h14]
      by_cases hc : v1 ≤ pN B len stop j ∧ pN B len stop j ≤ v2
      · rw [if_pos hc]
        refine b178_23 hG TM_eqo (by intros; omega) rfl ?_ ?_
        · intro q2
          refine r_advance hG (RT_up h (by omega)) hW.1 hW.2.1 hW.2.2.1 (fun c' f1 f2 => ?_)
          refine b178_44 hG ?_
          refine hz h3 hc.1 hc.2 c' ⟨fun r p => by rw [f1.1 r p, up_r p], fun i p1 p2 p3 p4 p5 p6 p7 => by rw [f1.2 i p1 p2 p3 p4 p5 p6, up_n (by omega)]⟩ f2 ?_
          rw [f1.2 18 (by omega) (by omega) (by omega) (by omega) (by omega) (by omega), up_e]
          exact h14
        · intro q2; omega
      · rw [if_neg hc]
        refine b178_23 hG TM_eqo (by intros; omega) rfl ?_ ?_
        · intro q2; omega
        · intro q2
          refine r_bad hG h (fun c' f1 => ?_)
          refine b178_31 hG (Or.inl rfl) ?_
          exact hf (by omega) c' f1
    · intro q; omega
  · have h11 : ¬ c 188 11 = 2 := fun x => h3 (t4.mpr x)
    rw [show fN (zS B len stop j) = 1 from if_neg h3] at hf
    clear t1 t2 t3 t4 t5 t6 t7
    refine b178_0 hG TM_eqo rfl (by intros; omega) rfl ?_ ?_
    · intro q; omega
    · intro q
      refine r_bad hG h (fun c' f1 => ?_)
      refine b178_13 hG (Or.inl rfl) ?_
      exact hf (by omega) c' f1
theorem r_looksAt (hG : Shp G) (hW : Wt B len most stop) (h : RT c B len most stop j) (hr : ∀ i, 0 ≤ i → i < 20 → c 194 i = rsvF i) (h0 : 0 ≤ v ∧ 0 ≤ N ∧ v + N ≤ 28) (hF : ∀ i, 0 ≤ i → i < N → NmR (f i) (c 193 (v + i))) (hz : zS B len stop j = 1 → ¬ pF B len stop j f N = -1 → Q (some (aI 1)) (G, q_up c 188 18 (pF B len stop j f N))) (hf : ¬ (zS B len stop j = 1 ∧ ¬ pF B len stop j f N = -1) → ∀ c', FlB c c' (fM (zS B len stop j)) (pP B len stop j) → Q (some (aI 0)) (G, c')) : TM (d + 1) 181 [aR 188, aI v, aI N] (G, c) Q := by
  have pb := pF_b (B := B) (len := len) (stop := stop) (j := j) (f := f) h0.2.1
  refine b181_0 hG ?_
  refine r_isName hG hW h hr ?_
  by_cases h1 : zS B len stop j = 1
  · rw [if_pos h1]
    rw [show fM (zS B len stop j) = 3 from if_pos h1] at hf
    refine b181_4 hG TM_eqo (by intros; omega) ?_ ?_
    · intro q
      refine r_find hG hW h h1 h0 hF ?_
      generalize pF B len stop j f N = p at *
      refine b181_20 hG TM_eqo (up_e) (by intros; omega) ?_ ?_
      · intro q2; exact hz h1 (by omega)
      · intro q2
        refine r_bad hG (RT_up h (by omega)) (fun c' f1 => ?_)
        refine b181_35 hG (by intros; omega) ?_ ?_
        · intro q3
          refine hf (by omega) c' ⟨fun r p => by rw [f1.1 r p, up_r p], fun i p1 p2 p3 => by rw [f1.2.1 i p1 p2 p3, up_n (by omega)], f1.2.2⟩
        · intro q3; omega
    · intro q; omega
  · rw [if_neg h1]
    rw [show fM (zS B len stop j) = 1 from if_neg h1] at hf
    refine b181_4 hG TM_eqo (by intros; omega) ?_ ?_
    · intro q; omega
    · intro q
      refine r_bad hG h (fun c' f1 => ?_)
      refine b181_12 hG (Or.inl rfl) ?_
      exact hf (by omega) c' f1
end SPtd
