section SPsg
variable {d d1 d2 r n0 : Nat} {G : GG} {c c' cA cB cA' cB' cA0 cB0 : CC} {Q : Option AV → HH → Prop} {v v1 v2 N k m n s t t0 w dep q pa po D sg s0 x y u len most stop p key lf : Int} {j i' : Nat} {S : SS} {B bs bs' dp : Int → Int}
def isSt (B : Int → Int) (len stop : Int) (j : Nat) : Prop := (zS B len stop j = 4 ∧ pN B len stop j = 40) ∨ (zS B len stop j = 2 ∧ (pN B len stop j = 7 ∨ 12 ≤ pN B len stop j))
theorem c_oneHead (hG : Shp G) (hW : Wt B len most stop) (h : TA c B len stop j) (e8 : c 48 8 = y) (hy : 0 ≤ y ∧ y ≤ 20) (hd : 1 ≤ dep ∧ dep ≤ 9) (z1 : ¬ isSt B len stop j → ∀ c', FlA c c' 1 (pP B len stop j) → Q (some (aI 0)) (G, c')) (z4 : isSt B len stop j → (20 ≤ y ∨ 8 < dep) → ∀ c', FlA c c' 4 (pP B len stop j) → Q (some (aI 0)) (G, c')) (zg : isSt B len stop j → y < 20 → dep ≤ 8 → ∀ c', FrV (q_up c 48 8 (y + 1)) c' → TA c' B len stop (j + 1) → T (d + 4) 85 118 [some (aR 48), some (aI dep), some (aI (if zS B len stop j = 4 ∧ pN B len stop j = 40 then 1 else 0)), none, some (aI (pN B len stop j))] [] (G, c') (QM Q)) : TM (d + 4) 85 [aR 48, aI dep] (G, c) Q := by
  have hse : Sent 48 := by unfold Sent; decide
  obtain ⟨e1, e2, e3, e4⟩ := TA_e h
  have b := p_b hW j
  have n12 : (q_up c 48 8 (y + 1)) 2 12 = pN B len stop j := (up_n (by omega)).trans e3
  have rf4 : isSt B len stop j → (20 ≤ y ∨ 8 < dep) → TM (d + 3) 99 [aR 2, aI 4] (G, c) (fun r h' => T (d + 4) 85 91 [none, none, none, none, none] (r.toList ++ []) h' (QM Q)) := by
    intro h1 h2
    refine c_ref hG h (fun c' f1 => ?_)
    refine b85_91 hG (Or.inl rfl) ?_
    exact z4 h1 h2 c' f1
  have go : isSt B len stop j → y < 20 → dep ≤ 8 → ∀ x, x = (if zS B len stop j = 4 ∧ pN B len stop j = 40 then (1 : Int) else 0) → TM (d + 3) 98 [aR 2] (G, q_up c 48 8 (y + 1)) (fun r h' => T (d + 4) 85 118 [some (aR 48), some (aI dep), some (aI x), none, some (aI (pN B len stop j))] (r.toList ++ []) h' (QM Q)) := by
    intro h1 h2 h3 x hx
    rw [hx]
    refine c_advance hG (TA_fr h (up_r (by omega)) (up_r (by omega)) (up_r (by omega)) (up_r (by omega)) (up_r (by omega))) (fun c' f1 t1 => ?_)
    exact zg h1 h2 h3 c' f1 t1
  clear z4 zg
  refine b85_0 hG (hse) ?_
  refine c_isSgn hG hW h (by omega) ?_
  by_cases hb : zS B len stop j = 4 ∧ pN B len stop j = 40
  · rw [if_pos hb]
    rw [if_pos hb] at go
    have hst : isSt B len stop j := Or.inl hb
    refine b85_9 hG (hse) TM_eqo (e1) (by intros; omega) ?_ (e3) (by intros; omega) (by intros; omega) (e8) (by intros; omega) ?_ (by intros; omega) (e8) (n12) ?_ ?_ (e8) (by intros; omega) ?_ (by intros; omega) (e8) (n12) ?_ ?_ (e3) (by intros; omega) ?_ (by intros; omega) (e8) (by intros; omega) ?_ (by intros; omega) (e8) (n12) ?_ ?_ (e8) (by intros; omega) ?_ (by intros; omega) (e8) (n12) ?_ ?_
    · intro q
      refine b85_49 hG (hse) TM_eqo (by intros; omega) (e8) (by intros; omega) ?_ (by intros; omega) (e8) (n12) ?_ ?_ ?_
      · intro q1 q2; exact rf4 hst (Or.inl q2)
      · intro q1 q2 q3; exact go hst q2 q3 1 rfl
      · intro q1 q2 q3; exact rf4 hst (Or.inr q3)
      · intro q1; omega
    all_goals intros
    all_goals (exfalso; omega)
  · rw [if_neg hb]
    rw [if_neg hb] at go
    by_cases hw : zS B len stop j = 2 ∧ (pN B len stop j = 7 ∨ 12 ≤ pN B len stop j)
    · have hst : isSt B len stop j := Or.inr hw
      refine b85_9 hG (hse) TM_eqo (e1) (by intros; omega) ?_ (e3) (by intros; omega) (by intros; omega) (e8) (by intros; omega) ?_ (by intros; omega) (e8) (n12) ?_ ?_ (e8) (by intros; omega) ?_ (by intros; omega) (e8) (n12) ?_ ?_ (e3) (by intros; omega) ?_ (by intros; omega) (e8) (by intros; omega) ?_ (by intros; omega) (e8) (n12) ?_ ?_ (e8) (by intros; omega) ?_ (by intros; omega) (e8) (n12) ?_ ?_
      all_goals intros
      all_goals first | (exfalso; omega) | skip
      all_goals first | exact rf4 hst (by omega) | exact go hst (by omega) (by omega) 0 rfl
    · have hst : ¬ isSt B len stop j := fun x => x.elim hb hw
      have stop1 : T (d + 4) 85 49 [some (aR 48), some (aI dep), some (aI 0), none, none] [] (G, c) (QM Q) := by
        refine b85_49 hG (hse) TM_eqo (by intros; omega) (e8) (by intros; omega) ?_ (by intros; omega) (e8) (n12) ?_ ?_ ?_
        · intro q1 q2; omega
        · intro q1 q2 q3; omega
        · intro q1 q2 q3; omega
        · intro q1
          refine c_ref hG h (fun c' f1 => ?_)
          refine b85_67 hG (Or.inl rfl) ?_
          exact z1 hst c' f1
      refine b85_9 hG (hse) TM_eqo (e1) (by intros; omega) ?_ (e3) (by intros; omega) (by intros; omega) (e8) (by intros; omega) ?_ (by intros; omega) (e8) (n12) ?_ ?_ (e8) (by intros; omega) ?_ (by intros; omega) (e8) (n12) ?_ ?_ (e3) (by intros; omega) ?_ (by intros; omega) (e8) (by intros; omega) ?_ (by intros; omega) (e8) (n12) ?_ ?_ (e8) (by intros; omega) ?_ (by intros; omega) (e8) (n12) ?_ ?_
      all_goals intros
      all_goals first | exact stop1 | (exfalso; omega)
def lfK (s n : Int) : Int := if s = 2 then (if n = 13 then 0 else if n = 7 then 1 else if 14 ≤ n then n - 12 else -1) else -1
theorem r_leafOf (hG : Shp G) (hW : Wt B len most stop) (h : RT c B len most stop j) (hz : Q (some (aI (lfK (zS B len stop j) (pN B len stop j)))) (G, c)) : TM (d + 1) 255 [aR 188] (G, c) Q := by
  have b := p_b hW j
  unfold lfK at hz
  refine b255_0 hG ?_
  refine r_isWord hG hW h 13 (by omega) (by omega) (by decide +kernel) ?_
  by_cases h0 : zS B len stop j = 2 ∧ pN B len stop j = 13
  · rw [if_pos h0]
    rw [if_pos h0.1, if_pos h0.2] at hz
    refine b255_7 hG (by intros; omega) ?_ ?_
    · intro q; omega
    · intro q; exact hz
  rw [if_neg h0]
  refine b255_7 hG (by intros; omega) ?_ ?_
  rotate_left
  · intro q; omega
  intro _
  refine r_isWord hG hW h 7 (by omega) (by omega) (by decide +kernel) ?_
  by_cases h1 : zS B len stop j = 2 ∧ pN B len stop j = 7
  · rw [if_pos h1]
    rw [if_pos h1.1, if_neg (by omega), if_pos h1.2] at hz
    refine b255_21 hG (by intros; omega) ?_ ?_
    · intro q; omega
    · intro q; exact hz
  rw [if_neg h1]
  refine b255_21 hG (by intros; omega) ?_ ?_
  rotate_left
  · intro q; omega
  intro _
  refine r_isWord hG hW h 14 (by omega) (by omega) (by decide +kernel) ?_
  by_cases h2 : zS B len stop j = 2 ∧ pN B len stop j = 14
  · rw [if_pos h2]
    rw [if_pos h2.1, if_neg (by omega), if_neg (by omega), if_pos (by omega), h2.2] at hz
    refine b255_35 hG (by intros; omega) ?_ ?_
    · intro q; omega
    · intro q; exact hz
  rw [if_neg h2]
  refine b255_35 hG (by intros; omega) ?_ ?_
  rotate_left
  · intro q; omega
  intro _
  refine r_isWord hG hW h 15 (by omega) (by omega) (by decide +kernel) ?_
  by_cases h3 : zS B len stop j = 2 ∧ pN B len stop j = 15
  · rw [if_pos h3]
    rw [if_pos h3.1, if_neg (by omega), if_neg (by omega), if_pos (by omega), h3.2] at hz
    refine b255_49 hG (by intros; omega) ?_ ?_
    · intro q; omega
    · intro q; exact hz
  rw [if_neg h3]
  refine b255_49 hG (by intros; omega) ?_ ?_
  rotate_left
  · intro q; omega
  intro _
  refine r_isWord hG hW h 16 (by omega) (by omega) (by decide +kernel) ?_
  by_cases h4 : zS B len stop j = 2 ∧ pN B len stop j = 16
  · rw [if_pos h4]
    rw [if_pos h4.1, if_neg (by omega), if_neg (by omega), if_pos (by omega), h4.2] at hz
    refine b255_63 hG (by intros; omega) ?_ ?_
    · intro q; omega
    · intro q; exact hz
  rw [if_neg h4]
  refine b255_63 hG (by intros; omega) ?_ ?_
  rotate_left
  · intro q; omega
  intro _
  refine r_isWord hG hW h 17 (by omega) (by omega) (by decide +kernel) ?_
  by_cases h5 : zS B len stop j = 2 ∧ pN B len stop j = 17
  · rw [if_pos h5]
    rw [if_pos h5.1, if_neg (by omega), if_neg (by omega), if_pos (by omega), h5.2] at hz
    refine b255_77 hG (by intros; omega) ?_ ?_
    · intro q; omega
    · intro q; exact hz
  rw [if_neg h5]
  refine b255_77 hG (by intros; omega) ?_ ?_
  rotate_left
  · intro q; omega
  intro _
  refine r_isWord hG hW h 18 (by omega) (by omega) (by decide +kernel) ?_
  by_cases h6 : zS B len stop j = 2 ∧ pN B len stop j = 18
  · rw [if_pos h6]
    rw [if_pos h6.1, if_neg (by omega), if_neg (by omega), if_pos (by omega), h6.2] at hz
    refine b255_91 hG TM_eqo (by intros; omega) ?_ ?_
    · intro q; omega
    · intro q; exact hz
  rw [if_neg h6]
  refine b255_91 hG TM_eqo (by intros; omega) ?_ ?_
  rotate_left
  · intro q; omega
  intro _
  refine r_isWord hG hW h 19 (by omega) (by omega) (by decide +kernel) ?_
  by_cases h7 : zS B len stop j = 2 ∧ pN B len stop j = 19
  · rw [if_pos h7]
    rw [if_pos h7.1, if_neg (by omega), if_neg (by omega), if_pos (by omega), h7.2] at hz
    refine b255_106 hG (by intros; omega) ?_ ?_
    · intro q; omega
    · intro q; exact hz
  rw [if_neg h7]
  have hn : (if zS B len stop j = 2 then (if pN B len stop j = 13 then (0 : Int) else if pN B len stop j = 7 then 1 else if 14 ≤ pN B len stop j then pN B len stop j - 12 else -1) else -1) = -1 := by
    by_cases e : zS B len stop j = 2
    · rw [if_pos e, if_neg (by omega), if_neg (by omega), if_neg (by omega)]
    · rw [if_neg e]
  rw [hn] at hz
  refine b255_106 hG (by intros; omega) ?_ ?_
  · intro q; exact hz
  · intro q; omega
theorem lfK_st (hW : Wt B len most stop) : isSt B len stop j ↔ (zS B len stop j = 4 ∧ pN B len stop j = 40) ∨ (zS B len stop j = 2 ∧ pN B len stop j = 12) ∨ 0 ≤ lfK (zS B len stop j) (pN B len stop j) := by
  have b := p_b hW j
  unfold isSt lfK
  by_cases e : zS B len stop j = 2
  · rw [if_pos e]
    split
    · omega
    · split
      · omega
      · split <;> omega
  · rw [if_neg e]; omega
theorem r_oneHead (hG : Shp G) (hW : Wt B len most stop) (h : RT c B len most stop j) (e41 : c 188 41 = y) (hy : 0 ≤ y ∧ y ≤ 20) (e43 : c 188 43 = dep) (hd : 1 ≤ dep ∧ dep ≤ 9) (z1 : ¬ isSt B len stop j → ∀ c', FlB c c' 1 (pP B len stop j) → Q (some (aI 0)) (G, c')) (z4 : isSt B len stop j → (20 ≤ y ∨ 8 < dep) → ∀ c', FlB c c' 4 (pP B len stop j) → Q (some (aI 0)) (G, c')) (zg : isSt B len stop j → y < 20 → dep ≤ 8 → ∀ c', FrN (q_up c 188 41 (y + 1)) c' → RT c' B len most stop (j + 1) → T (d + 4) 256 76 [some (aR 188), some (aI (if zS B len stop j = 2 ∧ pN B len stop j = 12 then 1 else 0)), some (aI (if zS B len stop j = 4 ∧ pN B len stop j = 40 then 1 else 0)), some (aI (lfK (zS B len stop j) (pN B len stop j))), none] [] (G, c') (QM Q)) : TM (d + 4) 256 [aR 188] (G, c) Q := by
  have b := p_b hW j
  have st := lfK_st (j := j) hW
  have rf4 : isSt B len stop j → (20 ≤ y ∨ 8 < dep) → TM (d + 3) 173 [aR 188, aI 4] (G, c) (fun r h' => T (d + 4) 256 61 [none, none, none, none, none] (r.toList ++ []) h' (QM Q)) := by
    intro h1 h2
    refine r_bad hG h (fun c' f1 => ?_)
    refine b256_61 hG (Or.inl rfl) ?_
    exact z4 h1 h2 c' f1
  have go : isSt B len stop j → y < 20 → dep ≤ 8 → ∀ x1 x2 x3, x1 = (if zS B len stop j = 2 ∧ pN B len stop j = 12 then (1 : Int) else 0) → x2 = (if zS B len stop j = 4 ∧ pN B len stop j = 40 then (1 : Int) else 0) → x3 = lfK (zS B len stop j) (pN B len stop j) → TM (d + 3) 172 [aR 188] (G, q_up c 188 41 (y + 1)) (fun r h' => T (d + 4) 256 76 [some (aR 188), some (aI x1), some (aI x2), some (aI x3), none] (r.toList ++ []) h' (QM Q)) := by
    intro h1 h2 h3 x1 x2 x3 e1 e2 e3
    rw [e1, e2, e3]
    refine r_advance hG (RT_up h (by omega)) hW.1 hW.2.1 hW.2.2.1 (fun c' f1 f2 => ?_)
    exact zg h1 h2 h3 c' f1 f2
  clear z4 zg
  refine b256_0 hG ?_
  refine r_isWord hG hW h 12 (by omega) (by omega) (by decide +kernel) ?_
  refine b256_7 hG ?_
  refine r_isSgn hG hW h (by omega) ?_
  refine b256_14 hG ?_
  refine r_leafOf hG hW h ?_
  have lb : -1 ≤ lfK (zS B len stop j) (pN B len stop j) ∧ lfK (zS B len stop j) (pN B len stop j) ≤ 7 := by
    unfold lfK
    split
    · split
      · omega
      · split
        · omega
        · split <;> omega
    · omega
  generalize lfK (zS B len stop j) (pN B len stop j) = L at *
  generalize hx1 : (if zS B len stop j = 2 ∧ pN B len stop j = 12 then (1 : Int) else 0) = x1 at *
  generalize hx2 : (if zS B len stop j = 4 ∧ pN B len stop j = 40 then (1 : Int) else 0) = x2 at *
  have b1 : (x1 = 1 ∧ zS B len stop j = 2 ∧ pN B len stop j = 12) ∨ (x1 = 0 ∧ ¬ (zS B len stop j = 2 ∧ pN B len stop j = 12)) := by
    by_cases q : zS B len stop j = 2 ∧ pN B len stop j = 12
    · rw [if_pos q] at hx1; exact Or.inl ⟨hx1.symm, q⟩
    · rw [if_neg q] at hx1; exact Or.inr ⟨hx1.symm, q⟩
  have b2 : (x2 = 1 ∧ zS B len stop j = 4 ∧ pN B len stop j = 40) ∨ (x2 = 0 ∧ ¬ (zS B len stop j = 4 ∧ pN B len stop j = 40)) := by
    by_cases q : zS B len stop j = 4 ∧ pN B len stop j = 40
    · rw [if_pos q] at hx2; exact Or.inl ⟨hx2.symm, q⟩
    · rw [if_neg q] at hx2; exact Or.inr ⟨hx2.symm, q⟩
  clear hx1 hx2
  by_cases hst : isSt B len stop j
  · have st' := st.mp hst
    clear st z1
    refine b256_19 hG TM_eqo (by intros; omega) (e41) (by intros; omega) ?_ (e43) (by intros; omega) (e41) ?_ ?_ (by intros; omega) (e41) (by intros; omega) ?_ (e43) (by intros; omega) (e41) ?_ ?_ (by intros; omega) (e41) (by intros; omega) ?_ (e43) (by intros; omega) (e41) ?_ ?_ ?_
    all_goals intros
    all_goals first | (exfalso; omega) | skip
    all_goals first | exact rf4 hst (by omega) | exact go hst (by omega) (by omega) x1 x2 L rfl rfl rfl
  · have st' := fun q => hst (st.mpr q)
    have n1 : ¬ 0 ≤ L := fun q => st' (Or.inr (Or.inr q))
    have n2 : ¬ (zS B len stop j = 2 ∧ pN B len stop j = 12) := fun q => st' (Or.inr (Or.inl q))
    have n3 : ¬ (zS B len stop j = 4 ∧ pN B len stop j = 40) := fun q => st' (Or.inl q)
    clear st st' go rf4
    refine b256_19 hG TM_eqo (by intros; omega) (e41) (by intros; omega) ?_ (e43) (by intros; omega) (e41) ?_ ?_ (by intros; omega) (e41) (by intros; omega) ?_ (e43) (by intros; omega) (e41) ?_ ?_ (by intros; omega) (e41) (by intros; omega) ?_ (e43) (by intros; omega) (e41) ?_ ?_ ?_
    all_goals intros
    all_goals first | (exfalso; omega) | skip
    refine r_bad hG h (fun c' f1 => ?_)
    refine b256_37 hG (Or.inl rfl) ?_
    exact z1 hst c' f1
end SPsg
