section QB8
variable {d : Nat} {G : GG} {c : CC} {Q : OO → HH → Prop}
/-- SoulOffice$Sentence.clear()V, from 0 -/
theorem b80_0 (hG : Shp G) {a : Nat} (h_a : Sent a)
    (z0 : Q (.inl none) (G, (q_up (q_up (q_up c a 7 0) a 8 0) a 6 0))) :
    T d 80 0 [some (aR a)] [] (G, c) Q := by
  refine e_L (L' := [some (aR a)]) (st' := [aR a]) (show decode (mC 80) 0 = .ok (.aload_n 0, 1) by decide +kernel) rfl (by show (if a = 0 then none else some (_, _)) = _; rw [if_neg (show ¬ a = 0 from se_ne h_a 0)]) ?_
  refine e_P (st' := [aI 0, aR a]) (show decode (mC 80) 1 = .ok (.iconst 0, 1) by decide +kernel) rfl rfl rfl ?_
  refine e_putZ (show decode (mC 80) 2 = .ok (.putfield 32, 3) by decide +kernel) (show pl 9 32 = some (0, 9, 7, 0) by decide +kernel) (by decide) (se_ok hG h_a 0 (by decide)) (by decide) ?_
  refine e_L (L' := [some (aR a)]) (st' := [aR a]) (show decode (mC 80) 5 = .ok (.aload_n 0, 1) by decide +kernel) rfl (by show (if a = 0 then none else some (_, _)) = _; rw [if_neg (show ¬ a = 0 from se_ne h_a 0)]) ?_
  refine e_P (st' := [aI 0, aR a]) (show decode (mC 80) 6 = .ok (.iconst 0, 1) by decide +kernel) rfl rfl rfl ?_
  refine e_putI (show decode (mC 80) 7 = .ok (.putfield 36, 3) by decide +kernel) (show pl 9 36 = some (0, 9, 8, 0) by decide +kernel) (by decide) (se_ok hG h_a 0 (by decide)) ?_
  refine e_L (L' := [some (aR a)]) (st' := [aR a]) (show decode (mC 80) 10 = .ok (.aload_n 0, 1) by decide +kernel) rfl (by show (if a = 0 then none else some (_, _)) = _; rw [if_neg (show ¬ a = 0 from se_ne h_a 0)]) ?_
  refine e_P (st' := [aI 0, aR a]) (show decode (mC 80) 11 = .ok (.iconst 0, 1) by decide +kernel) rfl rfl rfl ?_
  refine e_putI (show decode (mC 80) 12 = .ok (.putfield 40, 3) by decide +kernel) (show pl 9 40 = some (0, 9, 6, 0) by decide +kernel) (by decide) (se_ok hG h_a 0 (by decide)) ?_
  exact e_vret (show decode (mC 80) 15 = .ok (.return_, 1) by decide +kernel) rfl z0
/-- SoulOffice$Sentence.copyFrom(LSoulOffice$Sentence;)V, from 0 -/
theorem b81_0 (hG : Shp G) {x1 x2 x3 : Int} {a : Nat} (h_a : Sent a) {b : Nat} (h_b : Sent b)
    (ex1 : c b 7 = x1)
    (s1 : x1 = 0 ∨ x1 = 1)
    (ex2 : (q_up c a 7 x1) b 8 = x2)
    (ex3 : (q_up (q_up c a 7 x1) a 8 x2) b 6 = x3)
    (z4 : Q (.inl none) (G, (q_uf (q_uf (q_uf (q_up (q_up (q_up c a 7 x1) a 8 x2) a 6 x3) (a + 1) (q_cp ((q_up (q_up (q_up c a 7 x1) a 8 x2) a 6 x3) (b + 1)) ((q_up (q_up (q_up c a 7 x1) a 8 x2) a 6 x3) (a + 1)) 0 0 40)) (a + 2) (q_cp ((q_uf (q_up (q_up (q_up c a 7 x1) a 8 x2) a 6 x3) (a + 1) (q_cp ((q_up (q_up (q_up c a 7 x1) a 8 x2) a 6 x3) (b + 1)) ((q_up (q_up (q_up c a 7 x1) a 8 x2) a 6 x3) (a + 1)) 0 0 40)) (b + 2)) ((q_uf (q_up (q_up (q_up c a 7 x1) a 8 x2) a 6 x3) (a + 1) (q_cp ((q_up (q_up (q_up c a 7 x1) a 8 x2) a 6 x3) (b + 1)) ((q_up (q_up (q_up c a 7 x1) a 8 x2) a 6 x3) (a + 1)) 0 0 40)) (a + 2)) 0 0 40)) (a + 3) (q_cp ((q_uf (q_uf (q_up (q_up (q_up c a 7 x1) a 8 x2) a 6 x3) (a + 1) (q_cp ((q_up (q_up (q_up c a 7 x1) a 8 x2) a 6 x3) (b + 1)) ((q_up (q_up (q_up c a 7 x1) a 8 x2) a 6 x3) (a + 1)) 0 0 40)) (a + 2) (q_cp ((q_uf (q_up (q_up (q_up c a 7 x1) a 8 x2) a 6 x3) (a + 1) (q_cp ((q_up (q_up (q_up c a 7 x1) a 8 x2) a 6 x3) (b + 1)) ((q_up (q_up (q_up c a 7 x1) a 8 x2) a 6 x3) (a + 1)) 0 0 40)) (b + 2)) ((q_uf (q_up (q_up (q_up c a 7 x1) a 8 x2) a 6 x3) (a + 1) (q_cp ((q_up (q_up (q_up c a 7 x1) a 8 x2) a 6 x3) (b + 1)) ((q_up (q_up (q_up c a 7 x1) a 8 x2) a 6 x3) (a + 1)) 0 0 40)) (a + 2)) 0 0 40)) (b + 3)) ((q_uf (q_uf (q_up (q_up (q_up c a 7 x1) a 8 x2) a 6 x3) (a + 1) (q_cp ((q_up (q_up (q_up c a 7 x1) a 8 x2) a 6 x3) (b + 1)) ((q_up (q_up (q_up c a 7 x1) a 8 x2) a 6 x3) (a + 1)) 0 0 40)) (a + 2) (q_cp ((q_uf (q_up (q_up (q_up c a 7 x1) a 8 x2) a 6 x3) (a + 1) (q_cp ((q_up (q_up (q_up c a 7 x1) a 8 x2) a 6 x3) (b + 1)) ((q_up (q_up (q_up c a 7 x1) a 8 x2) a 6 x3) (a + 1)) 0 0 40)) (b + 2)) ((q_uf (q_up (q_up (q_up c a 7 x1) a 8 x2) a 6 x3) (a + 1) (q_cp ((q_up (q_up (q_up c a 7 x1) a 8 x2) a 6 x3) (b + 1)) ((q_up (q_up (q_up c a 7 x1) a 8 x2) a 6 x3) (a + 1)) 0 0 40)) (a + 2)) 0 0 40)) (a + 3)) 0 0 40)))) :
    T d 81 0 [some (aR a), some (aR b)] [] (G, c) Q := by
  refine e_L (L' := [some (aR a), some (aR b)]) (st' := [aR a]) (show decode (mC 81) 0 = .ok (.aload_n 0, 1) by decide +kernel) rfl (by show (if a = 0 then none else some (_, _)) = _; rw [if_neg (show ¬ a = 0 from se_ne h_a 0)]) ?_
  refine e_L (L' := [some (aR a), some (aR b)]) (st' := [aR b, aR a]) (show decode (mC 81) 1 = .ok (.aload_n 1, 1) by decide +kernel) rfl (by show (if b = 0 then none else some (_, _)) = _; rw [if_neg (show ¬ b = 0 from se_ne h_b 0)]) ?_
  refine e_getIx (show decode (mC 81) 2 = .ok (.getfield 32, 3) by decide +kernel) (show pl 9 32 = some (0, 9, 7, 0) by decide +kernel) (by decide) (se_ok hG h_b 0 (by decide)) ex1 ?_
  refine e_putZ (show decode (mC 81) 5 = .ok (.putfield 32, 3) by decide +kernel) (show pl 9 32 = some (0, 9, 7, 0) by decide +kernel) (by decide) (se_ok hG h_a 0 (by decide)) s1 ?_
  refine e_L (L' := [some (aR a), some (aR b)]) (st' := [aR a]) (show decode (mC 81) 8 = .ok (.aload_n 0, 1) by decide +kernel) rfl (by show (if a = 0 then none else some (_, _)) = _; rw [if_neg (show ¬ a = 0 from se_ne h_a 0)]) ?_
  refine e_L (L' := [some (aR a), some (aR b)]) (st' := [aR b, aR a]) (show decode (mC 81) 9 = .ok (.aload_n 1, 1) by decide +kernel) rfl (by show (if b = 0 then none else some (_, _)) = _; rw [if_neg (show ¬ b = 0 from se_ne h_b 0)]) ?_
  refine e_getIx (show decode (mC 81) 10 = .ok (.getfield 36, 3) by decide +kernel) (show pl 9 36 = some (0, 9, 8, 0) by decide +kernel) (by decide) (se_ok hG h_b 0 (by decide)) ex2 ?_
  refine e_putI (show decode (mC 81) 13 = .ok (.putfield 36, 3) by decide +kernel) (show pl 9 36 = some (0, 9, 8, 0) by decide +kernel) (by decide) (se_ok hG h_a 0 (by decide)) ?_
  refine e_L (L' := [some (aR a), some (aR b)]) (st' := [aR a]) (show decode (mC 81) 16 = .ok (.aload_n 0, 1) by decide +kernel) rfl (by show (if a = 0 then none else some (_, _)) = _; rw [if_neg (show ¬ a = 0 from se_ne h_a 0)]) ?_
  refine e_L (L' := [some (aR a), some (aR b)]) (st' := [aR b, aR a]) (show decode (mC 81) 17 = .ok (.aload_n 1, 1) by decide +kernel) rfl (by show (if b = 0 then none else some (_, _)) = _; rw [if_neg (show ¬ b = 0 from se_ne h_b 0)]) ?_
  refine e_getIx (show decode (mC 81) 18 = .ok (.getfield 40, 3) by decide +kernel) (show pl 9 40 = some (0, 9, 6, 0) by decide +kernel) (by decide) (se_ok hG h_b 0 (by decide)) ex3 ?_
  refine e_putI (show decode (mC 81) 21 = .ok (.putfield 40, 3) by decide +kernel) (show pl 9 40 = some (0, 9, 6, 0) by decide +kernel) (by decide) (se_ok hG h_a 0 (by decide)) ?_
  refine e_L (L' := [some (aR a), some (aR b)]) (st' := [aR b]) (show decode (mC 81) 24 = .ok (.aload_n 1, 1) by decide +kernel) rfl (by show (if b = 0 then none else some (_, _)) = _; rw [if_neg (show ¬ b = 0 from se_ne h_b 0)]) ?_
  refine e_getR (w := (b + 1)) (show decode (mC 81) 25 = .ok (.getfield 11, 3) by decide +kernel) (show pl 9 11 = some (0, 9, 2, 0) by decide +kernel) (by decide) (se_ok hG h_b 0 (by decide)) (se_rf hG h_b 0 (by decide)) ?_
  refine e_P (st' := [aI 0, aR (b + 1)]) (show decode (mC 81) 28 = .ok (.iconst 0, 1) by decide +kernel) rfl rfl rfl ?_
  refine e_L (L' := [some (aR a), some (aR b)]) (st' := [aR a, aI 0, aR (b + 1)]) (show decode (mC 81) 29 = .ok (.aload_n 0, 1) by decide +kernel) rfl (by show (if a = 0 then none else some (_, _)) = _; rw [if_neg (show ¬ a = 0 from se_ne h_a 0)]) ?_
  refine e_getR (w := (a + 1)) (show decode (mC 81) 30 = .ok (.getfield 11, 3) by decide +kernel) (show pl 9 11 = some (0, 9, 2, 0) by decide +kernel) (by decide) (se_ok hG h_a 0 (by decide)) (se_rf hG h_a 0 (by decide)) ?_
  refine e_P (st' := [aI 0, aR (a + 1), aI 0, aR (b + 1)]) (show decode (mC 81) 33 = .ok (.iconst 0, 1) by decide +kernel) rfl rfl rfl ?_
  refine e_P (st' := [aI 40, aI 0, aR (a + 1), aI 0, aR (b + 1)]) (show decode (mC 81) 34 = .ok (.bipush 40, 2) by decide +kernel) rfl rfl rfl ?_
  refine e_acp (n := 40) (n2 := 40) (show decode (mC 81) 36 = .ok (.invokestatic 43, 3) by decide +kernel) (show pl 9 43 = some (10, 0, 0, 0) by decide +kernel) (Or.inl ⟨(se_ok hG h_b 1 (by decide)), (se_ok hG h_a 1 (by decide))⟩) (se_ln hG h_b 1 (by decide)) (se_ln hG h_a 1 (by decide)) (by decide) (show (0 : Nat) ≤ 20 by decide) ?_
  refine e_L (L' := [some (aR a), some (aR b)]) (st' := [aR b]) (show decode (mC 81) 39 = .ok (.aload_n 1, 1) by decide +kernel) rfl (by show (if b = 0 then none else some (_, _)) = _; rw [if_neg (show ¬ b = 0 from se_ne h_b 0)]) ?_
  refine e_getR (w := (b + 2)) (show decode (mC 81) 40 = .ok (.getfield 15, 3) by decide +kernel) (show pl 9 15 = some (0, 9, 3, 0) by decide +kernel) (by decide) (se_ok hG h_b 0 (by decide)) (se_rf hG h_b 1 (by decide)) ?_
  refine e_P (st' := [aI 0, aR (b + 2)]) (show decode (mC 81) 43 = .ok (.iconst 0, 1) by decide +kernel) rfl rfl rfl ?_
  refine e_L (L' := [some (aR a), some (aR b)]) (st' := [aR a, aI 0, aR (b + 2)]) (show decode (mC 81) 44 = .ok (.aload_n 0, 1) by decide +kernel) rfl (by show (if a = 0 then none else some (_, _)) = _; rw [if_neg (show ¬ a = 0 from se_ne h_a 0)]) ?_
  refine e_getR (w := (a + 2)) (show decode (mC 81) 45 = .ok (.getfield 15, 3) by decide +kernel) (show pl 9 15 = some (0, 9, 3, 0) by decide +kernel) (by decide) (se_ok hG h_a 0 (by decide)) (se_rf hG h_a 1 (by decide)) ?_
  refine e_P (st' := [aI 0, aR (a + 2), aI 0, aR (b + 2)]) (show decode (mC 81) 48 = .ok (.iconst 0, 1) by decide +kernel) rfl rfl rfl ?_
  refine e_P (st' := [aI 40, aI 0, aR (a + 2), aI 0, aR (b + 2)]) (show decode (mC 81) 49 = .ok (.bipush 40, 2) by decide +kernel) rfl rfl rfl ?_
  refine e_acp (n := 40) (n2 := 40) (show decode (mC 81) 51 = .ok (.invokestatic 43, 3) by decide +kernel) (show pl 9 43 = some (10, 0, 0, 0) by decide +kernel) (Or.inl ⟨(se_ok hG h_b 2 (by decide)), (se_ok hG h_a 2 (by decide))⟩) (se_ln hG h_b 2 (by decide)) (se_ln hG h_a 2 (by decide)) (by decide) (show (0 : Nat) ≤ 20 by decide) ?_
  refine e_L (L' := [some (aR a), some (aR b)]) (st' := [aR b]) (show decode (mC 81) 54 = .ok (.aload_n 1, 1) by decide +kernel) rfl (by show (if b = 0 then none else some (_, _)) = _; rw [if_neg (show ¬ b = 0 from se_ne h_b 0)]) ?_
  refine e_getR (w := (b + 3)) (show decode (mC 81) 55 = .ok (.getfield 18, 3) by decide +kernel) (show pl 9 18 = some (0, 9, 4, 0) by decide +kernel) (by decide) (se_ok hG h_b 0 (by decide)) (se_rf hG h_b 2 (by decide)) ?_
  refine e_P (st' := [aI 0, aR (b + 3)]) (show decode (mC 81) 58 = .ok (.iconst 0, 1) by decide +kernel) rfl rfl rfl ?_
  refine e_L (L' := [some (aR a), some (aR b)]) (st' := [aR a, aI 0, aR (b + 3)]) (show decode (mC 81) 59 = .ok (.aload_n 0, 1) by decide +kernel) rfl (by show (if a = 0 then none else some (_, _)) = _; rw [if_neg (show ¬ a = 0 from se_ne h_a 0)]) ?_
  refine e_getR (w := (a + 3)) (show decode (mC 81) 60 = .ok (.getfield 18, 3) by decide +kernel) (show pl 9 18 = some (0, 9, 4, 0) by decide +kernel) (by decide) (se_ok hG h_a 0 (by decide)) (se_rf hG h_a 2 (by decide)) ?_
  refine e_P (st' := [aI 0, aR (a + 3), aI 0, aR (b + 3)]) (show decode (mC 81) 63 = .ok (.iconst 0, 1) by decide +kernel) rfl rfl rfl ?_
  refine e_P (st' := [aI 40, aI 0, aR (a + 3), aI 0, aR (b + 3)]) (show decode (mC 81) 64 = .ok (.bipush 40, 2) by decide +kernel) rfl rfl rfl ?_
  refine e_acp (n := 40) (n2 := 40) (show decode (mC 81) 66 = .ok (.invokestatic 43, 3) by decide +kernel) (show pl 9 43 = some (10, 0, 0, 0) by decide +kernel) (Or.inl ⟨(se_ok hG h_b 3 (by decide)), (se_ok hG h_a 3 (by decide))⟩) (se_ln hG h_b 3 (by decide)) (se_ln hG h_a 3 (by decide)) (by decide) (show (0 : Nat) ≤ 20 by decide) ?_
  exact e_vret (show decode (mC 81) 69 = .ok (.return_, 1) by decide +kernel) rfl z4
/-- SoulOffice$Sentence.readText()Z, from 0 -/
theorem b82_0 (hG : Shp G) {a : Nat} (h_a : Sent a)
    (m0 : TM d 80 [aR a] (G, c) (fun r h' => T (d + 1) 82 4 [some (aR a)] (r.toList ++ []) h' Q)) :
    T (d + 1) 82 0 [some (aR a)] [] (G, c) Q := by
  refine e_L (L' := [some (aR a)]) (st' := [aR a]) (show decode (mC 82) 0 = .ok (.aload_n 0, 1) by decide +kernel) rfl (by show (if a = 0 then none else some (_, _)) = _; rw [if_neg (show ¬ a = 0 from se_ne h_a 0)]) ?_
  exact e_V (as := [aR a]) (rest := []) (show decode (mC 82) 1 = .ok (.invokevirtual 49, 3) by decide +kernel) (by decide +kernel) (show (decide ((1 : Nat) = mA 80) && decide (80 < q_law)) = true by decide +kernel) rfl (show (0 : Nat) ≤ 8 by decide) (show (1 : Nat) ≤ mL 80 by decide +kernel) rfl (se_ok hG h_a 0 (by decide)) m0
/-- SoulOffice$Sentence.readText()Z, from 4 -/
theorem b82_4 (hG : Shp G) {a : Nat} (h_a : Sent a)
    (m0 : TM d 95 [aR 2, aI 200] (G, c) (fun r h' => T (d + 1) 82 14 [some (aR a)] (r.toList ++ []) h' Q)) :
    T (d + 1) 82 4 [some (aR a)] [] (G, c) Q := by
  refine e_L (L' := [some (aR a)]) (st' := [aR a]) (show decode (mC 82) 4 = .ok (.aload_n 0, 1) by decide +kernel) rfl (by show (if a = 0 then none else some (_, _)) = _; rw [if_neg (show ¬ a = 0 from se_ne h_a 0)]) ?_
  refine e_getR (w := 2) (show decode (mC 82) 5 = .ok (.getfield 24, 3) by decide +kernel) (show pl 9 24 = some (0, 9, 0, 0) by decide +kernel) (by decide) (se_ok hG h_a 0 (by decide)) (se_r0 hG h_a) ?_
  refine e_P (st' := [aI 200, aR 2]) (show decode (mC 82) 8 = .ok (.sipush 200, 3) by decide +kernel) rfl rfl rfl ?_
  exact e_V (as := [aR 2, aI 200]) (rest := []) (show decode (mC 82) 11 = .ok (.invokevirtual 52, 3) by decide +kernel) (by decide +kernel) (show (decide ((2 : Nat) = mA 95) && decide (95 < q_law)) = true by decide +kernel) rfl (show (0 : Nat) ≤ 8 by decide) (show (2 : Nat) ≤ mL 95 by decide +kernel) rfl (sh_ok hG (by decide +kernel)) m0
/-- SoulOffice$Sentence.readText()Z, from 14 -/
theorem b82_14 (hG : Shp G) {a : Nat} (h_a : Sent a)
    (m0 : TM d 83 [aR a, aI 1] (G, c) (fun r h' => T (d + 1) 82 20 [some (aR a)] (r.toList ++ [aR a]) h' Q)) :
    T (d + 1) 82 14 [some (aR a)] [] (G, c) Q := by
  refine e_L (L' := [some (aR a)]) (st' := [aR a]) (show decode (mC 82) 14 = .ok (.aload_n 0, 1) by decide +kernel) rfl (by show (if a = 0 then none else some (_, _)) = _; rw [if_neg (show ¬ a = 0 from se_ne h_a 0)]) ?_
  refine e_L (L' := [some (aR a)]) (st' := [aR a, aR a]) (show decode (mC 82) 15 = .ok (.aload_n 0, 1) by decide +kernel) rfl (by show (if a = 0 then none else some (_, _)) = _; rw [if_neg (show ¬ a = 0 from se_ne h_a 0)]) ?_
  refine e_P (st' := [aI 1, aR a, aR a]) (show decode (mC 82) 16 = .ok (.iconst 1, 1) by decide +kernel) rfl rfl rfl ?_
  exact e_V (as := [aR a, aI 1]) (rest := [aR a]) (show decode (mC 82) 17 = .ok (.invokevirtual 58, 3) by decide +kernel) (by decide +kernel) (show (decide ((2 : Nat) = mA 83) && decide (83 < q_law)) = true by decide +kernel) rfl (show (1 : Nat) ≤ 8 by decide) (show (2 : Nat) ≤ mL 83 by decide +kernel) rfl (se_ok hG h_a 0 (by decide)) m0
/-- SoulOffice$Sentence.readText()Z, from 20 -/
theorem b82_20 (hG : Shp G) {u1 x1 : Int} {a : Nat} (h_a : Sent a)
    (s0 : -2147483648 ≤ u1 ∧ u1 < 2147483648)
    (ex1 : (q_up c a 7 0) a 7 = x1)
    (s2 : (u1 = 0) → x1 = 0 ∨ x1 = 1)
    (z3 : (u1 = 0) → Q (.inl (some (aI x1))) (G, (q_up c a 7 0)))
    (m4 : (¬ u1 = 0) → TM d 100 [aR 2] (G, c) (fun r h' => T (d + 1) 82 30 [some (aR a)] (r.toList ++ [aR a]) h' Q)) :
    T (d + 1) 82 20 [some (aR a)] [aI u1, aR a] (G, c) Q := by
  refine e_eq1 (t := 37) (show decode (mC 82) 20 = .ok (.ifCond .eq 17, 3) by decide +kernel) (by decide) s0 (fun p1 => ?_) (fun p1 => ?_)
  · refine e_P (st' := [aI 0, aR a]) (show decode (mC 82) 37 = .ok (.iconst 0, 1) by decide +kernel) rfl rfl rfl ?_
    refine e_putZ (show decode (mC 82) 38 = .ok (.putfield 32, 3) by decide +kernel) (show pl 9 32 = some (0, 9, 7, 0) by decide +kernel) (by decide) (se_ok hG h_a 0 (by decide)) (by decide) ?_
    refine e_L (L' := [some (aR a)]) (st' := [aR a]) (show decode (mC 82) 41 = .ok (.aload_n 0, 1) by decide +kernel) rfl (by show (if a = 0 then none else some (_, _)) = _; rw [if_neg (show ¬ a = 0 from se_ne h_a 0)]) ?_
    refine e_getIx (show decode (mC 82) 42 = .ok (.getfield 32, 3) by decide +kernel) (show pl 9 32 = some (0, 9, 7, 0) by decide +kernel) (by decide) (se_ok hG h_a 0 (by decide)) ex1 ?_
    exact e_zret (show decode (mC 82) 45 = .ok (.ireturn, 1) by decide +kernel) rfl (s2 p1) (z3 p1)
  · refine e_L (L' := [some (aR a)]) (st' := [aR a, aR a]) (show decode (mC 82) 23 = .ok (.aload_n 0, 1) by decide +kernel) rfl (by show (if a = 0 then none else some (_, _)) = _; rw [if_neg (show ¬ a = 0 from se_ne h_a 0)]) ?_
    refine e_getR (w := 2) (show decode (mC 82) 24 = .ok (.getfield 24, 3) by decide +kernel) (show pl 9 24 = some (0, 9, 0, 0) by decide +kernel) (by decide) (se_ok hG h_a 0 (by decide)) (se_r0 hG h_a) ?_
    exact e_V (as := [aR 2]) (rest := [aR a]) (show decode (mC 82) 27 = .ok (.invokevirtual 62, 3) by decide +kernel) (by decide +kernel) (show (decide ((1 : Nat) = mA 100) && decide (100 < q_law)) = true by decide +kernel) rfl (show (1 : Nat) ≤ 8 by decide) (show (1 : Nat) ≤ mL 100 by decide +kernel) rfl (sh_ok hG (by decide +kernel)) (m4 p1)
/-- SoulOffice$Sentence.readText()Z, from 30 -/
theorem b82_30 (hG : Shp G) {u1 x1 x2 : Int} {a : Nat} (h_a : Sent a)
    (s0 : -2147483648 ≤ u1 ∧ u1 < 2147483648)
    (ex1 : (q_up c a 7 0) a 7 = x1)
    (s2 : (u1 = 0) → x1 = 0 ∨ x1 = 1)
    (z3 : (u1 = 0) → Q (.inl (some (aI x1))) (G, (q_up c a 7 0)))
    (ex2 : (q_up c a 7 1) a 7 = x2)
    (s5 : (¬ u1 = 0) → x2 = 0 ∨ x2 = 1)
    (z6 : (¬ u1 = 0) → Q (.inl (some (aI x2))) (G, (q_up c a 7 1))) :
    T (d + 1) 82 30 [some (aR a)] [aI u1, aR a] (G, c) Q := by
  refine e_eq1 (t := 37) (show decode (mC 82) 30 = .ok (.ifCond .eq 7, 3) by decide +kernel) (by decide) s0 (fun p1 => ?_) (fun p1 => ?_)
  · refine e_P (st' := [aI 0, aR a]) (show decode (mC 82) 37 = .ok (.iconst 0, 1) by decide +kernel) rfl rfl rfl ?_
    refine e_putZ (show decode (mC 82) 38 = .ok (.putfield 32, 3) by decide +kernel) (show pl 9 32 = some (0, 9, 7, 0) by decide +kernel) (by decide) (se_ok hG h_a 0 (by decide)) (by decide) ?_
    refine e_L (L' := [some (aR a)]) (st' := [aR a]) (show decode (mC 82) 41 = .ok (.aload_n 0, 1) by decide +kernel) rfl (by show (if a = 0 then none else some (_, _)) = _; rw [if_neg (show ¬ a = 0 from se_ne h_a 0)]) ?_
    refine e_getIx (show decode (mC 82) 42 = .ok (.getfield 32, 3) by decide +kernel) (show pl 9 32 = some (0, 9, 7, 0) by decide +kernel) (by decide) (se_ok hG h_a 0 (by decide)) ex1 ?_
    exact e_zret (show decode (mC 82) 45 = .ok (.ireturn, 1) by decide +kernel) rfl (s2 p1) (z3 p1)
  · refine e_P (st' := [aI 1, aR a]) (show decode (mC 82) 33 = .ok (.iconst 1, 1) by decide +kernel) rfl rfl rfl ?_
    refine e_go (t := 38) (show decode (mC 82) 34 = .ok (.goto 4, 3) by decide +kernel) (by decide) ?_
    refine e_putZ (show decode (mC 82) 38 = .ok (.putfield 32, 3) by decide +kernel) (show pl 9 32 = some (0, 9, 7, 0) by decide +kernel) (by decide) (se_ok hG h_a 0 (by decide)) (by decide) ?_
    refine e_L (L' := [some (aR a)]) (st' := [aR a]) (show decode (mC 82) 41 = .ok (.aload_n 0, 1) by decide +kernel) rfl (by show (if a = 0 then none else some (_, _)) = _; rw [if_neg (show ¬ a = 0 from se_ne h_a 0)]) ?_
    refine e_getIx (show decode (mC 82) 42 = .ok (.getfield 32, 3) by decide +kernel) (show pl 9 32 = some (0, 9, 7, 0) by decide +kernel) (by decide) (se_ok hG h_a 0 (by decide)) ex2 ?_
    exact e_zret (show decode (mC 82) 45 = .ok (.ireturn, 1) by decide +kernel) rfl (s5 p1) (z6 p1)
/-- SoulOffice$Sentence.readCond(I)Z, from 0 -/
theorem b83_0 (hG : Shp G) {v1 : Int} {a : Nat} (h_a : Sent a)
    (m0 : TM d 84 [aR a, aI v1] (G, c) (fun r h' => T (d + 1) 83 5 [some (aR a), some (aI v1), none] (r.toList ++ []) h' Q)) :
    T (d + 1) 83 0 [some (aR a), some (aI v1), none] [] (G, c) Q := by
  refine e_L (L' := [some (aR a), some (aI v1), none]) (st' := [aR a]) (show decode (mC 83) 0 = .ok (.aload_n 0, 1) by decide +kernel) rfl (by show (if a = 0 then none else some (_, _)) = _; rw [if_neg (show ¬ a = 0 from se_ne h_a 0)]) ?_
  refine e_L (L' := [some (aR a), some (aI v1), none]) (st' := [aI v1, aR a]) (show decode (mC 83) 1 = .ok (.iload_n 1, 1) by decide +kernel) rfl rfl ?_
  exact e_V (as := [aR a, aI v1]) (rest := []) (show decode (mC 83) 2 = .ok (.invokevirtual 66, 3) by decide +kernel) (by decide +kernel) (show (decide ((2 : Nat) = mA 84) && decide (84 < q_law)) = true by decide +kernel) rfl (show (0 : Nat) ≤ 8 by decide) (show (2 : Nat) ≤ mL 84 by decide +kernel) rfl (se_ok hG h_a 0 (by decide)) m0
/-- SoulOffice$Sentence.readCond(I)Z, from 5 -/
theorem b83_5 (hG : Shp G) {v1 u0 : Int} {a : Nat} (h_a : Sent a)
    (s0 : -2147483648 ≤ u0 ∧ u0 < 2147483648)
    (k1 : (¬ u0 = 0) → T (d + 1) 83 12 [some (aR a), some (aI v1), some (aI 0)] [] (G, c) Q)
    (z2 : (u0 = 0) → Q (.inl (some (aI 0))) (G, c)) :
    T (d + 1) 83 5 [some (aR a), some (aI v1), none] [aI u0] (G, c) Q := by
  refine e_ne1 (t := 10) (show decode (mC 83) 5 = .ok (.ifCond .ne 5, 3) by decide +kernel) (by decide) s0 (fun p1 => ?_) (fun p1 => ?_)
  · refine e_P (st' := [aI 0]) (show decode (mC 83) 10 = .ok (.iconst 0, 1) by decide +kernel) rfl rfl rfl ?_
    refine e_L (L' := [some (aR a), some (aI v1), some (aI 0)]) (st' := []) (show decode (mC 83) 11 = .ok (.istore_n 2, 1) by decide +kernel) rfl rfl ?_
    exact (k1 p1)
  · refine e_P (st' := [aI 0]) (show decode (mC 83) 8 = .ok (.iconst 0, 1) by decide +kernel) rfl rfl rfl ?_
    exact e_zret (show decode (mC 83) 9 = .ok (.ireturn, 1) by decide +kernel) rfl (by decide) (z2 p1)
/-- SoulOffice$Sentence.readCond(I)Z, from 12 -/
theorem b83_12 (hG : Shp G) {v1 v2 : Int} {a : Nat} (h_a : Sent a)
    (s0 : -2147483648 ≤ v2 ∧ v2 < 2147483648)
    (z1 : (20 < v2) → Q (.inl (some (aI 1))) (G, c))
    (m2 : (v2 ≤ 20) → TM d 101 [aR 2, aI 10] (G, c) (fun r h' => T (d + 1) 83 27 [some (aR a), some (aI v1), some (aI v2)] (r.toList ++ []) h' Q)) :
    T (d + 1) 83 12 [some (aR a), some (aI v1), some (aI v2)] [] (G, c) Q := by
  refine e_L (L' := [some (aR a), some (aI v1), some (aI v2)]) (st' := [aI v2]) (show decode (mC 83) 12 = .ok (.iload_n 2, 1) by decide +kernel) rfl rfl ?_
  refine e_P (st' := [aI 20, aI v2]) (show decode (mC 83) 13 = .ok (.bipush 20, 2) by decide +kernel) rfl rfl rfl ?_
  refine e_gt2 (t := 62) (show decode (mC 83) 15 = .ok (.if_icmp .gt 47, 3) by decide +kernel) (by decide) s0 (by decide) (fun p1 => ?_) (fun p1 => ?_)
  · refine e_P (st' := [aI 1]) (show decode (mC 83) 62 = .ok (.iconst 1, 1) by decide +kernel) rfl rfl rfl ?_
    exact e_zret (show decode (mC 83) 63 = .ok (.ireturn, 1) by decide +kernel) rfl (by decide) (z1 p1)
  · refine e_L (L' := [some (aR a), some (aI v1), some (aI v2)]) (st' := [aR a]) (show decode (mC 83) 18 = .ok (.aload_n 0, 1) by decide +kernel) rfl (by show (if a = 0 then none else some (_, _)) = _; rw [if_neg (show ¬ a = 0 from se_ne h_a 0)]) ?_
    refine e_getR (w := 2) (show decode (mC 83) 19 = .ok (.getfield 24, 3) by decide +kernel) (show pl 9 24 = some (0, 9, 0, 0) by decide +kernel) (by decide) (se_ok hG h_a 0 (by decide)) (se_r0 hG h_a) ?_
    refine e_P (st' := [aI 10, aR 2]) (show decode (mC 83) 22 = .ok (.bipush 10, 2) by decide +kernel) rfl rfl rfl ?_
    exact e_V (as := [aR 2, aI 10]) (rest := []) (show decode (mC 83) 24 = .ok (.invokevirtual 69, 3) by decide +kernel) (by decide +kernel) (show (decide ((2 : Nat) = mA 101) && decide (101 < q_law)) = true by decide +kernel) rfl (show (0 : Nat) ≤ 8 by decide) (show (2 : Nat) ≤ mL 101 by decide +kernel) rfl (sh_ok hG (by decide +kernel)) (m2 p1)
/-- SoulOffice$Sentence.readCond(I)Z, from 27 -/
theorem b83_27 (hG : Shp G) {v1 v2 u0 : Int} {a : Nat} (h_a : Sent a)
    (s0 : -2147483648 ≤ u0 ∧ u0 < 2147483648)
    (z1 : (u0 = 0) → Q (.inl (some (aI 1))) (G, c))
    (m2 : (¬ u0 = 0) → TM d 98 [aR 2] (G, c) (fun r h' => T (d + 1) 83 37 [some (aR a), some (aI v1), some (aI v2)] (r.toList ++ []) h' Q)) :
    T (d + 1) 83 27 [some (aR a), some (aI v1), some (aI v2)] [aI u0] (G, c) Q := by
  refine e_eq1 (t := 62) (show decode (mC 83) 27 = .ok (.ifCond .eq 35, 3) by decide +kernel) (by decide) s0 (fun p1 => ?_) (fun p1 => ?_)
  · refine e_P (st' := [aI 1]) (show decode (mC 83) 62 = .ok (.iconst 1, 1) by decide +kernel) rfl rfl rfl ?_
    exact e_zret (show decode (mC 83) 63 = .ok (.ireturn, 1) by decide +kernel) rfl (by decide) (z1 p1)
  · refine e_L (L' := [some (aR a), some (aI v1), some (aI v2)]) (st' := [aR a]) (show decode (mC 83) 30 = .ok (.aload_n 0, 1) by decide +kernel) rfl (by show (if a = 0 then none else some (_, _)) = _; rw [if_neg (show ¬ a = 0 from se_ne h_a 0)]) ?_
    refine e_getR (w := 2) (show decode (mC 83) 31 = .ok (.getfield 24, 3) by decide +kernel) (show pl 9 24 = some (0, 9, 0, 0) by decide +kernel) (by decide) (se_ok hG h_a 0 (by decide)) (se_r0 hG h_a) ?_
    exact e_V (as := [aR 2]) (rest := []) (show decode (mC 83) 34 = .ok (.invokevirtual 72, 3) by decide +kernel) (by decide +kernel) (show (decide ((1 : Nat) = mA 98) && decide (98 < q_law)) = true by decide +kernel) rfl (show (0 : Nat) ≤ 8 by decide) (show (1 : Nat) ≤ mL 98 by decide +kernel) rfl (sh_ok hG (by decide +kernel)) (m2 p1)
/-- SoulOffice$Sentence.readCond(I)Z, from 37 -/
theorem b83_37 (hG : Shp G) {v1 v2 : Int} {a : Nat} (h_a : Sent a)
    (m0 : TM d 84 [aR a, aI v1] (G, c) (fun r h' => T (d + 1) 83 42 [some (aR a), some (aI v1), some (aI v2)] (r.toList ++ []) h' Q)) :
    T (d + 1) 83 37 [some (aR a), some (aI v1), some (aI v2)] [] (G, c) Q := by
  refine e_L (L' := [some (aR a), some (aI v1), some (aI v2)]) (st' := [aR a]) (show decode (mC 83) 37 = .ok (.aload_n 0, 1) by decide +kernel) rfl (by show (if a = 0 then none else some (_, _)) = _; rw [if_neg (show ¬ a = 0 from se_ne h_a 0)]) ?_
  refine e_L (L' := [some (aR a), some (aI v1), some (aI v2)]) (st' := [aI v1, aR a]) (show decode (mC 83) 38 = .ok (.iload_n 1, 1) by decide +kernel) rfl rfl ?_
  exact e_V (as := [aR a, aI v1]) (rest := []) (show decode (mC 83) 39 = .ok (.invokevirtual 66, 3) by decide +kernel) (by decide +kernel) (show (decide ((2 : Nat) = mA 84) && decide (84 < q_law)) = true by decide +kernel) rfl (show (0 : Nat) ≤ 8 by decide) (show (2 : Nat) ≤ mL 84 by decide +kernel) rfl (se_ok hG h_a 0 (by decide)) m0
/-- SoulOffice$Sentence.readCond(I)Z, from 42 -/
theorem b83_42 (hG : Shp G) {v1 v2 u0 : Int} {a : Nat} (h_a : Sent a)
    (s0 : -2147483648 ≤ u0 ∧ u0 < 2147483648)
    (m1 : (¬ u0 = 0) → TM d 88 [aR a, aI 10, aI 0, aI 0] (G, c) (fun r h' => T (d + 1) 83 55 [some (aR a), some (aI v1), some (aI v2)] (r.toList ++ []) h' Q))
    (z2 : (u0 = 0) → Q (.inl (some (aI 0))) (G, c)) :
    T (d + 1) 83 42 [some (aR a), some (aI v1), some (aI v2)] [aI u0] (G, c) Q := by
  refine e_ne1 (t := 47) (show decode (mC 83) 42 = .ok (.ifCond .ne 5, 3) by decide +kernel) (by decide) s0 (fun p1 => ?_) (fun p1 => ?_)
  · refine e_L (L' := [some (aR a), some (aI v1), some (aI v2)]) (st' := [aR a]) (show decode (mC 83) 47 = .ok (.aload_n 0, 1) by decide +kernel) rfl (by show (if a = 0 then none else some (_, _)) = _; rw [if_neg (show ¬ a = 0 from se_ne h_a 0)]) ?_
    refine e_P (st' := [aI 10, aR a]) (show decode (mC 83) 48 = .ok (.bipush 10, 2) by decide +kernel) rfl rfl rfl ?_
    refine e_P (st' := [aI 0, aI 10, aR a]) (show decode (mC 83) 50 = .ok (.iconst 0, 1) by decide +kernel) rfl rfl rfl ?_
    refine e_P (st' := [aI 0, aI 0, aI 10, aR a]) (show decode (mC 83) 51 = .ok (.iconst 0, 1) by decide +kernel) rfl rfl rfl ?_
    exact e_V (as := [aR a, aI 10, aI 0, aI 0]) (rest := []) (show decode (mC 83) 52 = .ok (.invokevirtual 75, 3) by decide +kernel) (by decide +kernel) (show (decide ((4 : Nat) = mA 88) && decide (88 < q_law)) = true by decide +kernel) rfl (show (0 : Nat) ≤ 8 by decide) (show (4 : Nat) ≤ mL 88 by decide +kernel) rfl (se_ok hG h_a 0 (by decide)) (m1 p1)
  · refine e_P (st' := [aI 0]) (show decode (mC 83) 45 = .ok (.iconst 0, 1) by decide +kernel) rfl rfl rfl ?_
    exact e_zret (show decode (mC 83) 46 = .ok (.ireturn, 1) by decide +kernel) rfl (by decide) (z2 p1)
/-- SoulOffice$Sentence.readCond(I)Z, from 55 -/
theorem b83_55 (hG : Shp G) {v1 v2 u0 : Int} {a : Nat} (h_a : Sent a)
    (k0 : T (d + 1) 83 12 [some (aR a), some (aI v1), some (aI (v2 + 1))] [] (G, c) Q) :
    T (d + 1) 83 55 [some (aR a), some (aI v1), some (aI v2)] [aI u0] (G, c) Q := by
  refine e_P (st' := []) (show decode (mC 83) 55 = .ok (.pop, 1) by decide +kernel) rfl rfl rfl ?_
  refine e_L (L' := [some (aR a), some (aI v1), some (aI (v2 + 1))]) (st' := []) (show decode (mC 83) 56 = .ok (.iinc 2 1, 3) by decide +kernel) rfl rfl ?_
  refine e_go (t := 12) (show decode (mC 83) 59 = .ok (.goto (-47), 3) by decide +kernel) (by decide) ?_
  exact k0
/-- SoulOffice$Sentence.readAll(I)Z, from 0 -/
theorem b84_0 (hG : Shp G) {v1 : Int} {a : Nat} (h_a : Sent a)
    (m0 : TM d 85 [aR a, aI v1] (G, c) (fun r h' => T (d + 1) 84 5 [some (aR a), some (aI v1), none] (r.toList ++ []) h' Q)) :
    T (d + 1) 84 0 [some (aR a), some (aI v1), none] [] (G, c) Q := by
  refine e_L (L' := [some (aR a), some (aI v1), none]) (st' := [aR a]) (show decode (mC 84) 0 = .ok (.aload_n 0, 1) by decide +kernel) rfl (by show (if a = 0 then none else some (_, _)) = _; rw [if_neg (show ¬ a = 0 from se_ne h_a 0)]) ?_
  refine e_L (L' := [some (aR a), some (aI v1), none]) (st' := [aI v1, aR a]) (show decode (mC 84) 1 = .ok (.iload_n 1, 1) by decide +kernel) rfl rfl ?_
  exact e_V (as := [aR a, aI v1]) (rest := []) (show decode (mC 84) 2 = .ok (.invokevirtual 79, 3) by decide +kernel) (by decide +kernel) (show (decide ((2 : Nat) = mA 85) && decide (85 < q_law)) = true by decide +kernel) rfl (show (0 : Nat) ≤ 8 by decide) (show (2 : Nat) ≤ mL 85 by decide +kernel) rfl (se_ok hG h_a 0 (by decide)) m0
/-- SoulOffice$Sentence.readAll(I)Z, from 5 -/
theorem b84_5 (hG : Shp G) {v1 u0 : Int} {a : Nat} (h_a : Sent a)
    (s0 : -2147483648 ≤ u0 ∧ u0 < 2147483648)
    (k1 : (¬ u0 = 0) → T (d + 1) 84 12 [some (aR a), some (aI v1), some (aI 0)] [] (G, c) Q)
    (z2 : (u0 = 0) → Q (.inl (some (aI 0))) (G, c)) :
    T (d + 1) 84 5 [some (aR a), some (aI v1), none] [aI u0] (G, c) Q := by
  refine e_ne1 (t := 10) (show decode (mC 84) 5 = .ok (.ifCond .ne 5, 3) by decide +kernel) (by decide) s0 (fun p1 => ?_) (fun p1 => ?_)
  · refine e_P (st' := [aI 0]) (show decode (mC 84) 10 = .ok (.iconst 0, 1) by decide +kernel) rfl rfl rfl ?_
    refine e_L (L' := [some (aR a), some (aI v1), some (aI 0)]) (st' := []) (show decode (mC 84) 11 = .ok (.istore_n 2, 1) by decide +kernel) rfl rfl ?_
    exact (k1 p1)
  · refine e_P (st' := [aI 0]) (show decode (mC 84) 8 = .ok (.iconst 0, 1) by decide +kernel) rfl rfl rfl ?_
    exact e_zret (show decode (mC 84) 9 = .ok (.ireturn, 1) by decide +kernel) rfl (by decide) (z2 p1)
/-- SoulOffice$Sentence.readAll(I)Z, from 12 -/
theorem b84_12 (hG : Shp G) {v1 v2 : Int} {a : Nat} (h_a : Sent a)
    (s0 : -2147483648 ≤ v2 ∧ v2 < 2147483648)
    (z1 : (20 < v2) → Q (.inl (some (aI 1))) (G, c))
    (m2 : (v2 ≤ 20) → TM d 101 [aR 2, aI 11] (G, c) (fun r h' => T (d + 1) 84 27 [some (aR a), some (aI v1), some (aI v2)] (r.toList ++ []) h' Q)) :
    T (d + 1) 84 12 [some (aR a), some (aI v1), some (aI v2)] [] (G, c) Q := by
  refine e_L (L' := [some (aR a), some (aI v1), some (aI v2)]) (st' := [aI v2]) (show decode (mC 84) 12 = .ok (.iload_n 2, 1) by decide +kernel) rfl rfl ?_
  refine e_P (st' := [aI 20, aI v2]) (show decode (mC 84) 13 = .ok (.bipush 20, 2) by decide +kernel) rfl rfl rfl ?_
  refine e_gt2 (t := 62) (show decode (mC 84) 15 = .ok (.if_icmp .gt 47, 3) by decide +kernel) (by decide) s0 (by decide) (fun p1 => ?_) (fun p1 => ?_)
  · refine e_P (st' := [aI 1]) (show decode (mC 84) 62 = .ok (.iconst 1, 1) by decide +kernel) rfl rfl rfl ?_
    exact e_zret (show decode (mC 84) 63 = .ok (.ireturn, 1) by decide +kernel) rfl (by decide) (z1 p1)
  · refine e_L (L' := [some (aR a), some (aI v1), some (aI v2)]) (st' := [aR a]) (show decode (mC 84) 18 = .ok (.aload_n 0, 1) by decide +kernel) rfl (by show (if a = 0 then none else some (_, _)) = _; rw [if_neg (show ¬ a = 0 from se_ne h_a 0)]) ?_
    refine e_getR (w := 2) (show decode (mC 84) 19 = .ok (.getfield 24, 3) by decide +kernel) (show pl 9 24 = some (0, 9, 0, 0) by decide +kernel) (by decide) (se_ok hG h_a 0 (by decide)) (se_r0 hG h_a) ?_
    refine e_P (st' := [aI 11, aR 2]) (show decode (mC 84) 22 = .ok (.bipush 11, 2) by decide +kernel) rfl rfl rfl ?_
    exact e_V (as := [aR 2, aI 11]) (rest := []) (show decode (mC 84) 24 = .ok (.invokevirtual 69, 3) by decide +kernel) (by decide +kernel) (show (decide ((2 : Nat) = mA 101) && decide (101 < q_law)) = true by decide +kernel) rfl (show (0 : Nat) ≤ 8 by decide) (show (2 : Nat) ≤ mL 101 by decide +kernel) rfl (sh_ok hG (by decide +kernel)) (m2 p1)
/-- SoulOffice$Sentence.readAll(I)Z, from 27 -/
theorem b84_27 (hG : Shp G) {v1 v2 u0 : Int} {a : Nat} (h_a : Sent a)
    (s0 : -2147483648 ≤ u0 ∧ u0 < 2147483648)
    (z1 : (u0 = 0) → Q (.inl (some (aI 1))) (G, c))
    (m2 : (¬ u0 = 0) → TM d 98 [aR 2] (G, c) (fun r h' => T (d + 1) 84 37 [some (aR a), some (aI v1), some (aI v2)] (r.toList ++ []) h' Q)) :
    T (d + 1) 84 27 [some (aR a), some (aI v1), some (aI v2)] [aI u0] (G, c) Q := by
  refine e_eq1 (t := 62) (show decode (mC 84) 27 = .ok (.ifCond .eq 35, 3) by decide +kernel) (by decide) s0 (fun p1 => ?_) (fun p1 => ?_)
  · refine e_P (st' := [aI 1]) (show decode (mC 84) 62 = .ok (.iconst 1, 1) by decide +kernel) rfl rfl rfl ?_
    exact e_zret (show decode (mC 84) 63 = .ok (.ireturn, 1) by decide +kernel) rfl (by decide) (z1 p1)
  · refine e_L (L' := [some (aR a), some (aI v1), some (aI v2)]) (st' := [aR a]) (show decode (mC 84) 30 = .ok (.aload_n 0, 1) by decide +kernel) rfl (by show (if a = 0 then none else some (_, _)) = _; rw [if_neg (show ¬ a = 0 from se_ne h_a 0)]) ?_
    refine e_getR (w := 2) (show decode (mC 84) 31 = .ok (.getfield 24, 3) by decide +kernel) (show pl 9 24 = some (0, 9, 0, 0) by decide +kernel) (by decide) (se_ok hG h_a 0 (by decide)) (se_r0 hG h_a) ?_
    exact e_V (as := [aR 2]) (rest := []) (show decode (mC 84) 34 = .ok (.invokevirtual 72, 3) by decide +kernel) (by decide +kernel) (show (decide ((1 : Nat) = mA 98) && decide (98 < q_law)) = true by decide +kernel) rfl (show (0 : Nat) ≤ 8 by decide) (show (1 : Nat) ≤ mL 98 by decide +kernel) rfl (sh_ok hG (by decide +kernel)) (m2 p1)
/-- SoulOffice$Sentence.readAll(I)Z, from 37 -/
theorem b84_37 (hG : Shp G) {v1 v2 : Int} {a : Nat} (h_a : Sent a)
    (m0 : TM d 85 [aR a, aI v1] (G, c) (fun r h' => T (d + 1) 84 42 [some (aR a), some (aI v1), some (aI v2)] (r.toList ++ []) h' Q)) :
    T (d + 1) 84 37 [some (aR a), some (aI v1), some (aI v2)] [] (G, c) Q := by
  refine e_L (L' := [some (aR a), some (aI v1), some (aI v2)]) (st' := [aR a]) (show decode (mC 84) 37 = .ok (.aload_n 0, 1) by decide +kernel) rfl (by show (if a = 0 then none else some (_, _)) = _; rw [if_neg (show ¬ a = 0 from se_ne h_a 0)]) ?_
  refine e_L (L' := [some (aR a), some (aI v1), some (aI v2)]) (st' := [aI v1, aR a]) (show decode (mC 84) 38 = .ok (.iload_n 1, 1) by decide +kernel) rfl rfl ?_
  exact e_V (as := [aR a, aI v1]) (rest := []) (show decode (mC 84) 39 = .ok (.invokevirtual 79, 3) by decide +kernel) (by decide +kernel) (show (decide ((2 : Nat) = mA 85) && decide (85 < q_law)) = true by decide +kernel) rfl (show (0 : Nat) ≤ 8 by decide) (show (2 : Nat) ≤ mL 85 by decide +kernel) rfl (se_ok hG h_a 0 (by decide)) m0
/-- SoulOffice$Sentence.readAll(I)Z, from 42 -/
theorem b84_42 (hG : Shp G) {v1 v2 u0 : Int} {a : Nat} (h_a : Sent a)
    (s0 : -2147483648 ≤ u0 ∧ u0 < 2147483648)
    (m1 : (¬ u0 = 0) → TM d 88 [aR a, aI 11, aI 0, aI 0] (G, c) (fun r h' => T (d + 1) 84 55 [some (aR a), some (aI v1), some (aI v2)] (r.toList ++ []) h' Q))
    (z2 : (u0 = 0) → Q (.inl (some (aI 0))) (G, c)) :
    T (d + 1) 84 42 [some (aR a), some (aI v1), some (aI v2)] [aI u0] (G, c) Q := by
  refine e_ne1 (t := 47) (show decode (mC 84) 42 = .ok (.ifCond .ne 5, 3) by decide +kernel) (by decide) s0 (fun p1 => ?_) (fun p1 => ?_)
  · refine e_L (L' := [some (aR a), some (aI v1), some (aI v2)]) (st' := [aR a]) (show decode (mC 84) 47 = .ok (.aload_n 0, 1) by decide +kernel) rfl (by show (if a = 0 then none else some (_, _)) = _; rw [if_neg (show ¬ a = 0 from se_ne h_a 0)]) ?_
    refine e_P (st' := [aI 11, aR a]) (show decode (mC 84) 48 = .ok (.bipush 11, 2) by decide +kernel) rfl rfl rfl ?_
    refine e_P (st' := [aI 0, aI 11, aR a]) (show decode (mC 84) 50 = .ok (.iconst 0, 1) by decide +kernel) rfl rfl rfl ?_
    refine e_P (st' := [aI 0, aI 0, aI 11, aR a]) (show decode (mC 84) 51 = .ok (.iconst 0, 1) by decide +kernel) rfl rfl rfl ?_
    exact e_V (as := [aR a, aI 11, aI 0, aI 0]) (rest := []) (show decode (mC 84) 52 = .ok (.invokevirtual 75, 3) by decide +kernel) (by decide +kernel) (show (decide ((4 : Nat) = mA 88) && decide (88 < q_law)) = true by decide +kernel) rfl (show (0 : Nat) ≤ 8 by decide) (show (4 : Nat) ≤ mL 88 by decide +kernel) rfl (se_ok hG h_a 0 (by decide)) (m1 p1)
  · refine e_P (st' := [aI 0]) (show decode (mC 84) 45 = .ok (.iconst 0, 1) by decide +kernel) rfl rfl rfl ?_
    exact e_zret (show decode (mC 84) 46 = .ok (.ireturn, 1) by decide +kernel) rfl (by decide) (z2 p1)
/-- SoulOffice$Sentence.readAll(I)Z, from 55 -/
theorem b84_55 (hG : Shp G) {v1 v2 u0 : Int} {a : Nat} (h_a : Sent a)
    (k0 : T (d + 1) 84 12 [some (aR a), some (aI v1), some (aI (v2 + 1))] [] (G, c) Q) :
    T (d + 1) 84 55 [some (aR a), some (aI v1), some (aI v2)] [aI u0] (G, c) Q := by
  refine e_P (st' := []) (show decode (mC 84) 55 = .ok (.pop, 1) by decide +kernel) rfl rfl rfl ?_
  refine e_L (L' := [some (aR a), some (aI v1), some (aI (v2 + 1))]) (st' := []) (show decode (mC 84) 56 = .ok (.iinc 2 1, 3) by decide +kernel) rfl rfl ?_
  refine e_go (t := 12) (show decode (mC 84) 59 = .ok (.goto (-47), 3) by decide +kernel) (by decide) ?_
  exact k0
/-- SoulOffice$Sentence.readOne(I)Z, from 0 -/
theorem b85_0 (hG : Shp G) {v1 : Int} {a : Nat} (h_a : Sent a)
    (m0 : TM d 102 [aR 2, aI 40] (G, c) (fun r h' => T (d + 1) 85 9 [some (aR a), some (aI v1), none, none, none] (r.toList ++ []) h' Q)) :
    T (d + 1) 85 0 [some (aR a), some (aI v1), none, none, none] [] (G, c) Q := by
  refine e_L (L' := [some (aR a), some (aI v1), none, none, none]) (st' := [aR a]) (show decode (mC 85) 0 = .ok (.aload_n 0, 1) by decide +kernel) rfl (by show (if a = 0 then none else some (_, _)) = _; rw [if_neg (show ¬ a = 0 from se_ne h_a 0)]) ?_
  refine e_getR (w := 2) (show decode (mC 85) 1 = .ok (.getfield 24, 3) by decide +kernel) (show pl 9 24 = some (0, 9, 0, 0) by decide +kernel) (by decide) (se_ok hG h_a 0 (by decide)) (se_r0 hG h_a) ?_
  refine e_P (st' := [aI 40, aR 2]) (show decode (mC 85) 4 = .ok (.bipush 40, 2) by decide +kernel) rfl rfl rfl ?_
  exact e_V (as := [aR 2, aI 40]) (rest := []) (show decode (mC 85) 6 = .ok (.invokevirtual 82, 3) by decide +kernel) (by decide +kernel) (show (decide ((2 : Nat) = mA 102) && decide (102 < q_law)) = true by decide +kernel) rfl (show (0 : Nat) ≤ 8 by decide) (show (2 : Nat) ≤ mL 102 by decide +kernel) rfl (sh_ok hG (by decide +kernel)) m0
/-- SoulOffice$Sentence.readOne(I)Z, from 9 -/
theorem b85_9 (hG : Shp G) {v1 u0 x1 x2 x3 x4 x5 x6 x7 x8 x9 x10 x11 x12 x13 x14 x15 : Int} {a : Nat} (h_a : Sent a) (hQ : ∀ o o' h', q_eqo o o' → Q o h' → Q o' h')
    (ex1 : c 2 10 = x1)
    (s1 : -2147483648 ≤ x1 ∧ x1 < 2147483648)
    (k2 : (¬ x1 = 2) → T (d + 1) 85 49 [some (aR a), some (aI v1), some (aI u0), none, none] [] (G, c) Q)
    (ex2 : c 2 12 = x2)
    (s4 : (x1 = 2) → -2147483648 ≤ x2 ∧ x2 < 2147483648)
    (s5 : (x1 = 2) → (x2 = 7) → -2147483648 ≤ u0 ∧ u0 < 2147483648)
    (ex3 : c a 8 = x3)
    (s7 : (x1 = 2) → (x2 = 7) → (¬ u0 = 0) → -2147483648 ≤ x3 ∧ x3 < 2147483648)
    (m8 : (x1 = 2) → (x2 = 7) → (¬ u0 = 0) → (20 ≤ x3) → TM d 99 [aR 2, aI 4] (G, c) (fun r h' => T (d + 1) 85 91 [none, none, none, none, none] (r.toList ++ []) h' Q))
    (s9 : (x1 = 2) → (x2 = 7) → (¬ u0 = 0) → (x3 < 20) → -2147483648 ≤ v1 ∧ v1 < 2147483648)
    (ex4 : c a 8 = x4)
    (ex5 : (q_up c a 8 (x4 + 1)) 2 12 = x5)
    (m12 : (x1 = 2) → (x2 = 7) → (¬ u0 = 0) → (x3 < 20) → (v1 ≤ 8) → TM d 98 [aR 2] (G, (q_up c a 8 (x4 + 1))) (fun r h' => T (d + 1) 85 118 [some (aR a), some (aI v1), some (aI u0), none, some (aI x5)] (r.toList ++ []) h' Q))
    (m13 : (x1 = 2) → (x2 = 7) → (¬ u0 = 0) → (x3 < 20) → (8 < v1) → TM d 99 [aR 2, aI 4] (G, c) (fun r h' => T (d + 1) 85 91 [none, none, none, none, none] (r.toList ++ []) h' Q))
    (ex6 : c a 8 = x6)
    (s15 : (x1 = 2) → (x2 = 7) → (u0 = 0) → -2147483648 ≤ x6 ∧ x6 < 2147483648)
    (m16 : (x1 = 2) → (x2 = 7) → (u0 = 0) → (20 ≤ x6) → TM d 99 [aR 2, aI 4] (G, c) (fun r h' => T (d + 1) 85 91 [none, none, none, none, none] (r.toList ++ []) h' Q))
    (s17 : (x1 = 2) → (x2 = 7) → (u0 = 0) → (x6 < 20) → -2147483648 ≤ v1 ∧ v1 < 2147483648)
    (ex7 : c a 8 = x7)
    (ex8 : (q_up c a 8 (x7 + 1)) 2 12 = x8)
    (m20 : (x1 = 2) → (x2 = 7) → (u0 = 0) → (x6 < 20) → (v1 ≤ 8) → TM d 98 [aR 2] (G, (q_up c a 8 (x7 + 1))) (fun r h' => T (d + 1) 85 118 [some (aR a), some (aI v1), some (aI u0), none, some (aI x8)] (r.toList ++ []) h' Q))
    (m21 : (x1 = 2) → (x2 = 7) → (u0 = 0) → (x6 < 20) → (8 < v1) → TM d 99 [aR 2, aI 4] (G, c) (fun r h' => T (d + 1) 85 91 [none, none, none, none, none] (r.toList ++ []) h' Q))
    (ex9 : c 2 12 = x9)
    (s23 : (x1 = 2) → (¬ x2 = 7) → -2147483648 ≤ x9 ∧ x9 < 2147483648)
    (k24 : (x1 = 2) → (¬ x2 = 7) → (x9 < 12) → T (d + 1) 85 49 [some (aR a), some (aI v1), some (aI u0), none, none] [] (G, c) Q)
    (s25 : (x1 = 2) → (¬ x2 = 7) → (12 ≤ x9) → -2147483648 ≤ u0 ∧ u0 < 2147483648)
    (ex10 : c a 8 = x10)
    (s27 : (x1 = 2) → (¬ x2 = 7) → (12 ≤ x9) → (¬ u0 = 0) → -2147483648 ≤ x10 ∧ x10 < 2147483648)
    (m28 : (x1 = 2) → (¬ x2 = 7) → (12 ≤ x9) → (¬ u0 = 0) → (20 ≤ x10) → TM d 99 [aR 2, aI 4] (G, c) (fun r h' => T (d + 1) 85 91 [none, none, none, none, none] (r.toList ++ []) h' Q))
    (s29 : (x1 = 2) → (¬ x2 = 7) → (12 ≤ x9) → (¬ u0 = 0) → (x10 < 20) → -2147483648 ≤ v1 ∧ v1 < 2147483648)
    (ex11 : c a 8 = x11)
    (ex12 : (q_up c a 8 (x11 + 1)) 2 12 = x12)
    (m32 : (x1 = 2) → (¬ x2 = 7) → (12 ≤ x9) → (¬ u0 = 0) → (x10 < 20) → (v1 ≤ 8) → TM d 98 [aR 2] (G, (q_up c a 8 (x11 + 1))) (fun r h' => T (d + 1) 85 118 [some (aR a), some (aI v1), some (aI u0), none, some (aI x12)] (r.toList ++ []) h' Q))
    (m33 : (x1 = 2) → (¬ x2 = 7) → (12 ≤ x9) → (¬ u0 = 0) → (x10 < 20) → (8 < v1) → TM d 99 [aR 2, aI 4] (G, c) (fun r h' => T (d + 1) 85 91 [none, none, none, none, none] (r.toList ++ []) h' Q))
    (ex13 : c a 8 = x13)
    (s35 : (x1 = 2) → (¬ x2 = 7) → (12 ≤ x9) → (u0 = 0) → -2147483648 ≤ x13 ∧ x13 < 2147483648)
    (m36 : (x1 = 2) → (¬ x2 = 7) → (12 ≤ x9) → (u0 = 0) → (20 ≤ x13) → TM d 99 [aR 2, aI 4] (G, c) (fun r h' => T (d + 1) 85 91 [none, none, none, none, none] (r.toList ++ []) h' Q))
    (s37 : (x1 = 2) → (¬ x2 = 7) → (12 ≤ x9) → (u0 = 0) → (x13 < 20) → -2147483648 ≤ v1 ∧ v1 < 2147483648)
    (ex14 : c a 8 = x14)
    (ex15 : (q_up c a 8 (x14 + 1)) 2 12 = x15)
    (m40 : (x1 = 2) → (¬ x2 = 7) → (12 ≤ x9) → (u0 = 0) → (x13 < 20) → (v1 ≤ 8) → TM d 98 [aR 2] (G, (q_up c a 8 (x14 + 1))) (fun r h' => T (d + 1) 85 118 [some (aR a), some (aI v1), some (aI u0), none, some (aI x15)] (r.toList ++ []) h' Q))
    (m41 : (x1 = 2) → (¬ x2 = 7) → (12 ≤ x9) → (u0 = 0) → (x13 < 20) → (8 < v1) → TM d 99 [aR 2, aI 4] (G, c) (fun r h' => T (d + 1) 85 91 [none, none, none, none, none] (r.toList ++ []) h' Q)) :
    T (d + 1) 85 9 [some (aR a), some (aI v1), none, none, none] [aI u0] (G, c) Q := by
  refine e_L (L' := [some (aR a), some (aI v1), some (aI u0), none, none]) (st' := []) (show decode (mC 85) 9 = .ok (.istore_n 2, 1) by decide +kernel) rfl rfl ?_
  refine e_L (L' := [some (aR a), some (aI v1), some (aI u0), none, none]) (st' := [aR a]) (show decode (mC 85) 10 = .ok (.aload_n 0, 1) by decide +kernel) rfl (by show (if a = 0 then none else some (_, _)) = _; rw [if_neg (show ¬ a = 0 from se_ne h_a 0)]) ?_
  refine e_getR (w := 2) (show decode (mC 85) 11 = .ok (.getfield 24, 3) by decide +kernel) (show pl 9 24 = some (0, 9, 0, 0) by decide +kernel) (by decide) (se_ok hG h_a 0 (by decide)) (se_r0 hG h_a) ?_
  refine e_getIx (show decode (mC 85) 14 = .ok (.getfield 86, 3) by decide +kernel) (show pl 9 86 = some (0, 10, 10, 0) by decide +kernel) (by decide) (sh_ok hG (by decide +kernel)) ex1 ?_
  refine e_P (st' := [aI 2, aI x1]) (show decode (mC 85) 17 = .ok (.iconst 2, 1) by decide +kernel) rfl rfl rfl ?_
  refine e_ne2 (t := 49) (show decode (mC 85) 18 = .ok (.if_icmp .ne 31, 3) by decide +kernel) (by decide) s1 (by decide) (fun p1 => ?_) (fun p1 => ?_)
  · exact (k2 p1)
  · refine e_L (L' := [some (aR a), some (aI v1), some (aI u0), none, none]) (st' := [aR a]) (show decode (mC 85) 21 = .ok (.aload_n 0, 1) by decide +kernel) rfl (by show (if a = 0 then none else some (_, _)) = _; rw [if_neg (show ¬ a = 0 from se_ne h_a 0)]) ?_
    refine e_getR (w := 2) (show decode (mC 85) 22 = .ok (.getfield 24, 3) by decide +kernel) (show pl 9 24 = some (0, 9, 0, 0) by decide +kernel) (by decide) (se_ok hG h_a 0 (by decide)) (se_r0 hG h_a) ?_
    refine e_getIx (show decode (mC 85) 25 = .ok (.getfield 89, 3) by decide +kernel) (show pl 9 89 = some (0, 10, 12, 0) by decide +kernel) (by decide) (sh_ok hG (by decide +kernel)) ex2 ?_
    refine e_P (st' := [aI 7, aI x2]) (show decode (mC 85) 28 = .ok (.bipush 7, 2) by decide +kernel) rfl rfl rfl ?_
    refine e_eq2 (t := 45) (show decode (mC 85) 30 = .ok (.if_icmp .eq 15, 3) by decide +kernel) (by decide) (s4 p1) (by decide) (fun p2 => ?_) (fun p2 => ?_)
    · refine e_P (st' := [aI 1]) (show decode (mC 85) 45 = .ok (.iconst 1, 1) by decide +kernel) rfl rfl rfl ?_
      refine e_go (t := 50) (show decode (mC 85) 46 = .ok (.goto 4, 3) by decide +kernel) (by decide) ?_
      refine e_L (L' := [some (aR a), some (aI v1), some (aI u0), some (aI 1), none]) (st' := []) (show decode (mC 85) 50 = .ok (.istore_n 3, 1) by decide +kernel) rfl rfl ?_
      refine e_L (L' := [some (aR a), some (aI v1), some (aI u0), some (aI 1), none]) (st' := [aI u0]) (show decode (mC 85) 51 = .ok (.iload_n 2, 1) by decide +kernel) rfl rfl ?_
      refine e_ne1 (t := 68) (show decode (mC 85) 52 = .ok (.ifCond .ne 16, 3) by decide +kernel) (by decide) (s5 p1 p2) (fun p3 => ?_) (fun p3 => ?_)
      · refine e_L (L' := [some (aR a), some (aI v1), some (aI u0), some (aI 1), none]) (st' := [aR a]) (show decode (mC 85) 68 = .ok (.aload_n 0, 1) by decide +kernel) rfl (by show (if a = 0 then none else some (_, _)) = _; rw [if_neg (show ¬ a = 0 from se_ne h_a 0)]) ?_
        refine e_getIx (show decode (mC 85) 69 = .ok (.getfield 36, 3) by decide +kernel) (show pl 9 36 = some (0, 9, 8, 0) by decide +kernel) (by decide) (se_ok hG h_a 0 (by decide)) ex3 ?_
        refine e_P (st' := [aI 20, aI x3]) (show decode (mC 85) 72 = .ok (.bipush 20, 2) by decide +kernel) rfl rfl rfl ?_
        refine e_ge2 (t := 83) (show decode (mC 85) 74 = .ok (.if_icmp .ge 9, 3) by decide +kernel) (by decide) (s7 p1 p2 p3) (by decide) (fun p4 => ?_) (fun p4 => ?_)
        · refine e_L (L' := [some (aR a), some (aI v1), some (aI u0), some (aI 1), none]) (st' := [aR a]) (show decode (mC 85) 83 = .ok (.aload_n 0, 1) by decide +kernel) rfl (by show (if a = 0 then none else some (_, _)) = _; rw [if_neg (show ¬ a = 0 from se_ne h_a 0)]) ?_
          refine e_getR (w := 2) (show decode (mC 85) 84 = .ok (.getfield 24, 3) by decide +kernel) (show pl 9 24 = some (0, 9, 0, 0) by decide +kernel) (by decide) (se_ok hG h_a 0 (by decide)) (se_r0 hG h_a) ?_
          refine e_P (st' := [aI 4, aR 2]) (show decode (mC 85) 87 = .ok (.iconst 4, 1) by decide +kernel) rfl rfl rfl ?_
          exact e_V (as := [aR 2, aI 4]) (rest := []) (show decode (mC 85) 88 = .ok (.invokevirtual 91, 3) by decide +kernel) (by decide +kernel) (show (decide ((2 : Nat) = mA 99) && decide (99 < q_law)) = true by decide +kernel) rfl (show (0 : Nat) ≤ 8 by decide) (show (2 : Nat) ≤ mL 99 by decide +kernel) rfl (sh_ok hG (by decide +kernel)) (tm_le hQ (leN (leN (leN (leN (leS leE))))) (m8 p1 p2 p3 p4))
        · refine e_L (L' := [some (aR a), some (aI v1), some (aI u0), some (aI 1), none]) (st' := [aI v1]) (show decode (mC 85) 77 = .ok (.iload_n 1, 1) by decide +kernel) rfl rfl ?_
          refine e_P (st' := [aI 8, aI v1]) (show decode (mC 85) 78 = .ok (.bipush 8, 2) by decide +kernel) rfl rfl rfl ?_
          refine e_le2 (t := 92) (show decode (mC 85) 80 = .ok (.if_icmp .le 12, 3) by decide +kernel) (by decide) (s9 p1 p2 p3 p4) (by decide) (fun p5 => ?_) (fun p5 => ?_)
          · refine e_L (L' := [some (aR a), some (aI v1), some (aI u0), some (aI 1), none]) (st' := [aR a]) (show decode (mC 85) 92 = .ok (.aload_n 0, 1) by decide +kernel) rfl (by show (if a = 0 then none else some (_, _)) = _; rw [if_neg (show ¬ a = 0 from se_ne h_a 0)]) ?_
            refine e_P (st' := [aR a, aR a]) (show decode (mC 85) 93 = .ok (.dup, 1) by decide +kernel) rfl rfl rfl ?_
            refine e_getIx (show decode (mC 85) 94 = .ok (.getfield 36, 3) by decide +kernel) (show pl 9 36 = some (0, 9, 8, 0) by decide +kernel) (by decide) (se_ok hG h_a 0 (by decide)) ex4 ?_
            refine e_P (st' := [aI 1, aI x4, aR a]) (show decode (mC 85) 97 = .ok (.iconst 1, 1) by decide +kernel) rfl rfl rfl ?_
            refine e_P (st' := [aI (x4 + 1), aR a]) (show decode (mC 85) 98 = .ok (.iadd, 1) by decide +kernel) rfl rfl rfl ?_
            refine e_putI (show decode (mC 85) 99 = .ok (.putfield 36, 3) by decide +kernel) (show pl 9 36 = some (0, 9, 8, 0) by decide +kernel) (by decide) (se_ok hG h_a 0 (by decide)) ?_
            refine e_L (L' := [some (aR a), some (aI v1), some (aI u0), some (aI 1), none]) (st' := [aR a]) (show decode (mC 85) 102 = .ok (.aload_n 0, 1) by decide +kernel) rfl (by show (if a = 0 then none else some (_, _)) = _; rw [if_neg (show ¬ a = 0 from se_ne h_a 0)]) ?_
            refine e_getR (w := 2) (show decode (mC 85) 103 = .ok (.getfield 24, 3) by decide +kernel) (show pl 9 24 = some (0, 9, 0, 0) by decide +kernel) (by decide) (se_ok hG h_a 0 (by decide)) (se_r0 hG h_a) ?_
            refine e_getIx (show decode (mC 85) 106 = .ok (.getfield 89, 3) by decide +kernel) (show pl 9 89 = some (0, 10, 12, 0) by decide +kernel) (by decide) (sh_ok hG (by decide +kernel)) ex5 ?_
            refine e_L (L' := [some (aR a), some (aI v1), some (aI u0), some (aI 1), some (aI x5)]) (st' := []) (show decode (mC 85) 109 = .ok (.istore 4, 2) by decide +kernel) rfl rfl ?_
            refine e_L (L' := [some (aR a), some (aI v1), some (aI u0), some (aI 1), some (aI x5)]) (st' := [aR a]) (show decode (mC 85) 111 = .ok (.aload_n 0, 1) by decide +kernel) rfl (by show (if a = 0 then none else some (_, _)) = _; rw [if_neg (show ¬ a = 0 from se_ne h_a 0)]) ?_
            refine e_getR (w := 2) (show decode (mC 85) 112 = .ok (.getfield 24, 3) by decide +kernel) (show pl 9 24 = some (0, 9, 0, 0) by decide +kernel) (by decide) (se_ok hG h_a 0 (by decide)) (se_r0 hG h_a) ?_
            exact e_V (as := [aR 2]) (rest := []) (show decode (mC 85) 115 = .ok (.invokevirtual 72, 3) by decide +kernel) (by decide +kernel) (show (decide ((1 : Nat) = mA 98) && decide (98 < q_law)) = true by decide +kernel) rfl (show (0 : Nat) ≤ 8 by decide) (show (1 : Nat) ≤ mL 98 by decide +kernel) rfl (sh_ok hG (by decide +kernel)) (tm_le hQ (leS (leS (leS (leN (leS leE))))) (m12 p1 p2 p3 p4 p5))
          · refine e_L (L' := [some (aR a), some (aI v1), some (aI u0), some (aI 1), none]) (st' := [aR a]) (show decode (mC 85) 83 = .ok (.aload_n 0, 1) by decide +kernel) rfl (by show (if a = 0 then none else some (_, _)) = _; rw [if_neg (show ¬ a = 0 from se_ne h_a 0)]) ?_
            refine e_getR (w := 2) (show decode (mC 85) 84 = .ok (.getfield 24, 3) by decide +kernel) (show pl 9 24 = some (0, 9, 0, 0) by decide +kernel) (by decide) (se_ok hG h_a 0 (by decide)) (se_r0 hG h_a) ?_
            refine e_P (st' := [aI 4, aR 2]) (show decode (mC 85) 87 = .ok (.iconst 4, 1) by decide +kernel) rfl rfl rfl ?_
            exact e_V (as := [aR 2, aI 4]) (rest := []) (show decode (mC 85) 88 = .ok (.invokevirtual 91, 3) by decide +kernel) (by decide +kernel) (show (decide ((2 : Nat) = mA 99) && decide (99 < q_law)) = true by decide +kernel) rfl (show (0 : Nat) ≤ 8 by decide) (show (2 : Nat) ≤ mL 99 by decide +kernel) rfl (sh_ok hG (by decide +kernel)) (tm_le hQ (leN (leN (leN (leN (leS leE))))) (m13 p1 p2 p3 p4 p5))
      · refine e_L (L' := [some (aR a), some (aI v1), some (aI u0), some (aI 1), none]) (st' := [aI 1]) (show decode (mC 85) 55 = .ok (.iload_n 3, 1) by decide +kernel) rfl rfl ?_
        refine e_ne1 (t := 68) (show decode (mC 85) 56 = .ok (.ifCond .ne 12, 3) by decide +kernel) (by decide) (by decide) (fun _ => ?_) (fun h => absurd h (by decide))
        refine e_L (L' := [some (aR a), some (aI v1), some (aI u0), some (aI 1), none]) (st' := [aR a]) (show decode (mC 85) 68 = .ok (.aload_n 0, 1) by decide +kernel) rfl (by show (if a = 0 then none else some (_, _)) = _; rw [if_neg (show ¬ a = 0 from se_ne h_a 0)]) ?_
        refine e_getIx (show decode (mC 85) 69 = .ok (.getfield 36, 3) by decide +kernel) (show pl 9 36 = some (0, 9, 8, 0) by decide +kernel) (by decide) (se_ok hG h_a 0 (by decide)) ex6 ?_
        refine e_P (st' := [aI 20, aI x6]) (show decode (mC 85) 72 = .ok (.bipush 20, 2) by decide +kernel) rfl rfl rfl ?_
        refine e_ge2 (t := 83) (show decode (mC 85) 74 = .ok (.if_icmp .ge 9, 3) by decide +kernel) (by decide) (s15 p1 p2 p3) (by decide) (fun p4 => ?_) (fun p4 => ?_)
        · refine e_L (L' := [some (aR a), some (aI v1), some (aI u0), some (aI 1), none]) (st' := [aR a]) (show decode (mC 85) 83 = .ok (.aload_n 0, 1) by decide +kernel) rfl (by show (if a = 0 then none else some (_, _)) = _; rw [if_neg (show ¬ a = 0 from se_ne h_a 0)]) ?_
          refine e_getR (w := 2) (show decode (mC 85) 84 = .ok (.getfield 24, 3) by decide +kernel) (show pl 9 24 = some (0, 9, 0, 0) by decide +kernel) (by decide) (se_ok hG h_a 0 (by decide)) (se_r0 hG h_a) ?_
          refine e_P (st' := [aI 4, aR 2]) (show decode (mC 85) 87 = .ok (.iconst 4, 1) by decide +kernel) rfl rfl rfl ?_
          exact e_V (as := [aR 2, aI 4]) (rest := []) (show decode (mC 85) 88 = .ok (.invokevirtual 91, 3) by decide +kernel) (by decide +kernel) (show (decide ((2 : Nat) = mA 99) && decide (99 < q_law)) = true by decide +kernel) rfl (show (0 : Nat) ≤ 8 by decide) (show (2 : Nat) ≤ mL 99 by decide +kernel) rfl (sh_ok hG (by decide +kernel)) (tm_le hQ (leN (leN (leN (leN (leS leE))))) (m16 p1 p2 p3 p4))
        · refine e_L (L' := [some (aR a), some (aI v1), some (aI u0), some (aI 1), none]) (st' := [aI v1]) (show decode (mC 85) 77 = .ok (.iload_n 1, 1) by decide +kernel) rfl rfl ?_
          refine e_P (st' := [aI 8, aI v1]) (show decode (mC 85) 78 = .ok (.bipush 8, 2) by decide +kernel) rfl rfl rfl ?_
          refine e_le2 (t := 92) (show decode (mC 85) 80 = .ok (.if_icmp .le 12, 3) by decide +kernel) (by decide) (s17 p1 p2 p3 p4) (by decide) (fun p5 => ?_) (fun p5 => ?_)
          · refine e_L (L' := [some (aR a), some (aI v1), some (aI u0), some (aI 1), none]) (st' := [aR a]) (show decode (mC 85) 92 = .ok (.aload_n 0, 1) by decide +kernel) rfl (by show (if a = 0 then none else some (_, _)) = _; rw [if_neg (show ¬ a = 0 from se_ne h_a 0)]) ?_
            refine e_P (st' := [aR a, aR a]) (show decode (mC 85) 93 = .ok (.dup, 1) by decide +kernel) rfl rfl rfl ?_
            refine e_getIx (show decode (mC 85) 94 = .ok (.getfield 36, 3) by decide +kernel) (show pl 9 36 = some (0, 9, 8, 0) by decide +kernel) (by decide) (se_ok hG h_a 0 (by decide)) ex7 ?_
            refine e_P (st' := [aI 1, aI x7, aR a]) (show decode (mC 85) 97 = .ok (.iconst 1, 1) by decide +kernel) rfl rfl rfl ?_
            refine e_P (st' := [aI (x7 + 1), aR a]) (show decode (mC 85) 98 = .ok (.iadd, 1) by decide +kernel) rfl rfl rfl ?_
            refine e_putI (show decode (mC 85) 99 = .ok (.putfield 36, 3) by decide +kernel) (show pl 9 36 = some (0, 9, 8, 0) by decide +kernel) (by decide) (se_ok hG h_a 0 (by decide)) ?_
            refine e_L (L' := [some (aR a), some (aI v1), some (aI u0), some (aI 1), none]) (st' := [aR a]) (show decode (mC 85) 102 = .ok (.aload_n 0, 1) by decide +kernel) rfl (by show (if a = 0 then none else some (_, _)) = _; rw [if_neg (show ¬ a = 0 from se_ne h_a 0)]) ?_
            refine e_getR (w := 2) (show decode (mC 85) 103 = .ok (.getfield 24, 3) by decide +kernel) (show pl 9 24 = some (0, 9, 0, 0) by decide +kernel) (by decide) (se_ok hG h_a 0 (by decide)) (se_r0 hG h_a) ?_
            refine e_getIx (show decode (mC 85) 106 = .ok (.getfield 89, 3) by decide +kernel) (show pl 9 89 = some (0, 10, 12, 0) by decide +kernel) (by decide) (sh_ok hG (by decide +kernel)) ex8 ?_
            refine e_L (L' := [some (aR a), some (aI v1), some (aI u0), some (aI 1), some (aI x8)]) (st' := []) (show decode (mC 85) 109 = .ok (.istore 4, 2) by decide +kernel) rfl rfl ?_
            refine e_L (L' := [some (aR a), some (aI v1), some (aI u0), some (aI 1), some (aI x8)]) (st' := [aR a]) (show decode (mC 85) 111 = .ok (.aload_n 0, 1) by decide +kernel) rfl (by show (if a = 0 then none else some (_, _)) = _; rw [if_neg (show ¬ a = 0 from se_ne h_a 0)]) ?_
            refine e_getR (w := 2) (show decode (mC 85) 112 = .ok (.getfield 24, 3) by decide +kernel) (show pl 9 24 = some (0, 9, 0, 0) by decide +kernel) (by decide) (se_ok hG h_a 0 (by decide)) (se_r0 hG h_a) ?_
            exact e_V (as := [aR 2]) (rest := []) (show decode (mC 85) 115 = .ok (.invokevirtual 72, 3) by decide +kernel) (by decide +kernel) (show (decide ((1 : Nat) = mA 98) && decide (98 < q_law)) = true by decide +kernel) rfl (show (0 : Nat) ≤ 8 by decide) (show (1 : Nat) ≤ mL 98 by decide +kernel) rfl (sh_ok hG (by decide +kernel)) (tm_le hQ (leS (leS (leS (leN (leS leE))))) (m20 p1 p2 p3 p4 p5))
          · refine e_L (L' := [some (aR a), some (aI v1), some (aI u0), some (aI 1), none]) (st' := [aR a]) (show decode (mC 85) 83 = .ok (.aload_n 0, 1) by decide +kernel) rfl (by show (if a = 0 then none else some (_, _)) = _; rw [if_neg (show ¬ a = 0 from se_ne h_a 0)]) ?_
            refine e_getR (w := 2) (show decode (mC 85) 84 = .ok (.getfield 24, 3) by decide +kernel) (show pl 9 24 = some (0, 9, 0, 0) by decide +kernel) (by decide) (se_ok hG h_a 0 (by decide)) (se_r0 hG h_a) ?_
            refine e_P (st' := [aI 4, aR 2]) (show decode (mC 85) 87 = .ok (.iconst 4, 1) by decide +kernel) rfl rfl rfl ?_
            exact e_V (as := [aR 2, aI 4]) (rest := []) (show decode (mC 85) 88 = .ok (.invokevirtual 91, 3) by decide +kernel) (by decide +kernel) (show (decide ((2 : Nat) = mA 99) && decide (99 < q_law)) = true by decide +kernel) rfl (show (0 : Nat) ≤ 8 by decide) (show (2 : Nat) ≤ mL 99 by decide +kernel) rfl (sh_ok hG (by decide +kernel)) (tm_le hQ (leN (leN (leN (leN (leS leE))))) (m21 p1 p2 p3 p4 p5))
    · refine e_L (L' := [some (aR a), some (aI v1), some (aI u0), none, none]) (st' := [aR a]) (show decode (mC 85) 33 = .ok (.aload_n 0, 1) by decide +kernel) rfl (by show (if a = 0 then none else some (_, _)) = _; rw [if_neg (show ¬ a = 0 from se_ne h_a 0)]) ?_
      refine e_getR (w := 2) (show decode (mC 85) 34 = .ok (.getfield 24, 3) by decide +kernel) (show pl 9 24 = some (0, 9, 0, 0) by decide +kernel) (by decide) (se_ok hG h_a 0 (by decide)) (se_r0 hG h_a) ?_
      refine e_getIx (show decode (mC 85) 37 = .ok (.getfield 89, 3) by decide +kernel) (show pl 9 89 = some (0, 10, 12, 0) by decide +kernel) (by decide) (sh_ok hG (by decide +kernel)) ex9 ?_
      refine e_P (st' := [aI 12, aI x9]) (show decode (mC 85) 40 = .ok (.bipush 12, 2) by decide +kernel) rfl rfl rfl ?_
      refine e_lt2 (t := 49) (show decode (mC 85) 42 = .ok (.if_icmp .lt 7, 3) by decide +kernel) (by decide) (s23 p1 p2) (by decide) (fun p3 => ?_) (fun p3 => ?_)
      · exact (k24 p1 p2 p3)
      · refine e_P (st' := [aI 1]) (show decode (mC 85) 45 = .ok (.iconst 1, 1) by decide +kernel) rfl rfl rfl ?_
        refine e_go (t := 50) (show decode (mC 85) 46 = .ok (.goto 4, 3) by decide +kernel) (by decide) ?_
        refine e_L (L' := [some (aR a), some (aI v1), some (aI u0), some (aI 1), none]) (st' := []) (show decode (mC 85) 50 = .ok (.istore_n 3, 1) by decide +kernel) rfl rfl ?_
        refine e_L (L' := [some (aR a), some (aI v1), some (aI u0), some (aI 1), none]) (st' := [aI u0]) (show decode (mC 85) 51 = .ok (.iload_n 2, 1) by decide +kernel) rfl rfl ?_
        refine e_ne1 (t := 68) (show decode (mC 85) 52 = .ok (.ifCond .ne 16, 3) by decide +kernel) (by decide) (s25 p1 p2 p3) (fun p4 => ?_) (fun p4 => ?_)
        · refine e_L (L' := [some (aR a), some (aI v1), some (aI u0), some (aI 1), none]) (st' := [aR a]) (show decode (mC 85) 68 = .ok (.aload_n 0, 1) by decide +kernel) rfl (by show (if a = 0 then none else some (_, _)) = _; rw [if_neg (show ¬ a = 0 from se_ne h_a 0)]) ?_
          refine e_getIx (show decode (mC 85) 69 = .ok (.getfield 36, 3) by decide +kernel) (show pl 9 36 = some (0, 9, 8, 0) by decide +kernel) (by decide) (se_ok hG h_a 0 (by decide)) ex10 ?_
          refine e_P (st' := [aI 20, aI x10]) (show decode (mC 85) 72 = .ok (.bipush 20, 2) by decide +kernel) rfl rfl rfl ?_
          refine e_ge2 (t := 83) (show decode (mC 85) 74 = .ok (.if_icmp .ge 9, 3) by decide +kernel) (by decide) (s27 p1 p2 p3 p4) (by decide) (fun p5 => ?_) (fun p5 => ?_)
          · refine e_L (L' := [some (aR a), some (aI v1), some (aI u0), some (aI 1), none]) (st' := [aR a]) (show decode (mC 85) 83 = .ok (.aload_n 0, 1) by decide +kernel) rfl (by show (if a = 0 then none else some (_, _)) = _; rw [if_neg (show ¬ a = 0 from se_ne h_a 0)]) ?_
            refine e_getR (w := 2) (show decode (mC 85) 84 = .ok (.getfield 24, 3) by decide +kernel) (show pl 9 24 = some (0, 9, 0, 0) by decide +kernel) (by decide) (se_ok hG h_a 0 (by decide)) (se_r0 hG h_a) ?_
            refine e_P (st' := [aI 4, aR 2]) (show decode (mC 85) 87 = .ok (.iconst 4, 1) by decide +kernel) rfl rfl rfl ?_
            exact e_V (as := [aR 2, aI 4]) (rest := []) (show decode (mC 85) 88 = .ok (.invokevirtual 91, 3) by decide +kernel) (by decide +kernel) (show (decide ((2 : Nat) = mA 99) && decide (99 < q_law)) = true by decide +kernel) rfl (show (0 : Nat) ≤ 8 by decide) (show (2 : Nat) ≤ mL 99 by decide +kernel) rfl (sh_ok hG (by decide +kernel)) (tm_le hQ (leN (leN (leN (leN (leS leE))))) (m28 p1 p2 p3 p4 p5))
          · refine e_L (L' := [some (aR a), some (aI v1), some (aI u0), some (aI 1), none]) (st' := [aI v1]) (show decode (mC 85) 77 = .ok (.iload_n 1, 1) by decide +kernel) rfl rfl ?_
            refine e_P (st' := [aI 8, aI v1]) (show decode (mC 85) 78 = .ok (.bipush 8, 2) by decide +kernel) rfl rfl rfl ?_
            refine e_le2 (t := 92) (show decode (mC 85) 80 = .ok (.if_icmp .le 12, 3) by decide +kernel) (by decide) (s29 p1 p2 p3 p4 p5) (by decide) (fun p6 => ?_) (fun p6 => ?_)
            · refine e_L (L' := [some (aR a), some (aI v1), some (aI u0), some (aI 1), none]) (st' := [aR a]) (show decode (mC 85) 92 = .ok (.aload_n 0, 1) by decide +kernel) rfl (by show (if a = 0 then none else some (_, _)) = _; rw [if_neg (show ¬ a = 0 from se_ne h_a 0)]) ?_
              refine e_P (st' := [aR a, aR a]) (show decode (mC 85) 93 = .ok (.dup, 1) by decide +kernel) rfl rfl rfl ?_
              refine e_getIx (show decode (mC 85) 94 = .ok (.getfield 36, 3) by decide +kernel) (show pl 9 36 = some (0, 9, 8, 0) by decide +kernel) (by decide) (se_ok hG h_a 0 (by decide)) ex11 ?_
              refine e_P (st' := [aI 1, aI x11, aR a]) (show decode (mC 85) 97 = .ok (.iconst 1, 1) by decide +kernel) rfl rfl rfl ?_
              refine e_P (st' := [aI (x11 + 1), aR a]) (show decode (mC 85) 98 = .ok (.iadd, 1) by decide +kernel) rfl rfl rfl ?_
              refine e_putI (show decode (mC 85) 99 = .ok (.putfield 36, 3) by decide +kernel) (show pl 9 36 = some (0, 9, 8, 0) by decide +kernel) (by decide) (se_ok hG h_a 0 (by decide)) ?_
              refine e_L (L' := [some (aR a), some (aI v1), some (aI u0), some (aI 1), none]) (st' := [aR a]) (show decode (mC 85) 102 = .ok (.aload_n 0, 1) by decide +kernel) rfl (by show (if a = 0 then none else some (_, _)) = _; rw [if_neg (show ¬ a = 0 from se_ne h_a 0)]) ?_
              refine e_getR (w := 2) (show decode (mC 85) 103 = .ok (.getfield 24, 3) by decide +kernel) (show pl 9 24 = some (0, 9, 0, 0) by decide +kernel) (by decide) (se_ok hG h_a 0 (by decide)) (se_r0 hG h_a) ?_
              refine e_getIx (show decode (mC 85) 106 = .ok (.getfield 89, 3) by decide +kernel) (show pl 9 89 = some (0, 10, 12, 0) by decide +kernel) (by decide) (sh_ok hG (by decide +kernel)) ex12 ?_
              refine e_L (L' := [some (aR a), some (aI v1), some (aI u0), some (aI 1), some (aI x12)]) (st' := []) (show decode (mC 85) 109 = .ok (.istore 4, 2) by decide +kernel) rfl rfl ?_
              refine e_L (L' := [some (aR a), some (aI v1), some (aI u0), some (aI 1), some (aI x12)]) (st' := [aR a]) (show decode (mC 85) 111 = .ok (.aload_n 0, 1) by decide +kernel) rfl (by show (if a = 0 then none else some (_, _)) = _; rw [if_neg (show ¬ a = 0 from se_ne h_a 0)]) ?_
              refine e_getR (w := 2) (show decode (mC 85) 112 = .ok (.getfield 24, 3) by decide +kernel) (show pl 9 24 = some (0, 9, 0, 0) by decide +kernel) (by decide) (se_ok hG h_a 0 (by decide)) (se_r0 hG h_a) ?_
              exact e_V (as := [aR 2]) (rest := []) (show decode (mC 85) 115 = .ok (.invokevirtual 72, 3) by decide +kernel) (by decide +kernel) (show (decide ((1 : Nat) = mA 98) && decide (98 < q_law)) = true by decide +kernel) rfl (show (0 : Nat) ≤ 8 by decide) (show (1 : Nat) ≤ mL 98 by decide +kernel) rfl (sh_ok hG (by decide +kernel)) (tm_le hQ (leS (leS (leS (leN (leS leE))))) (m32 p1 p2 p3 p4 p5 p6))
            · refine e_L (L' := [some (aR a), some (aI v1), some (aI u0), some (aI 1), none]) (st' := [aR a]) (show decode (mC 85) 83 = .ok (.aload_n 0, 1) by decide +kernel) rfl (by show (if a = 0 then none else some (_, _)) = _; rw [if_neg (show ¬ a = 0 from se_ne h_a 0)]) ?_
              refine e_getR (w := 2) (show decode (mC 85) 84 = .ok (.getfield 24, 3) by decide +kernel) (show pl 9 24 = some (0, 9, 0, 0) by decide +kernel) (by decide) (se_ok hG h_a 0 (by decide)) (se_r0 hG h_a) ?_
              refine e_P (st' := [aI 4, aR 2]) (show decode (mC 85) 87 = .ok (.iconst 4, 1) by decide +kernel) rfl rfl rfl ?_
              exact e_V (as := [aR 2, aI 4]) (rest := []) (show decode (mC 85) 88 = .ok (.invokevirtual 91, 3) by decide +kernel) (by decide +kernel) (show (decide ((2 : Nat) = mA 99) && decide (99 < q_law)) = true by decide +kernel) rfl (show (0 : Nat) ≤ 8 by decide) (show (2 : Nat) ≤ mL 99 by decide +kernel) rfl (sh_ok hG (by decide +kernel)) (tm_le hQ (leN (leN (leN (leN (leS leE))))) (m33 p1 p2 p3 p4 p5 p6))
        · refine e_L (L' := [some (aR a), some (aI v1), some (aI u0), some (aI 1), none]) (st' := [aI 1]) (show decode (mC 85) 55 = .ok (.iload_n 3, 1) by decide +kernel) rfl rfl ?_
          refine e_ne1 (t := 68) (show decode (mC 85) 56 = .ok (.ifCond .ne 12, 3) by decide +kernel) (by decide) (by decide) (fun _ => ?_) (fun h => absurd h (by decide))
          refine e_L (L' := [some (aR a), some (aI v1), some (aI u0), some (aI 1), none]) (st' := [aR a]) (show decode (mC 85) 68 = .ok (.aload_n 0, 1) by decide +kernel) rfl (by show (if a = 0 then none else some (_, _)) = _; rw [if_neg (show ¬ a = 0 from se_ne h_a 0)]) ?_
          refine e_getIx (show decode (mC 85) 69 = .ok (.getfield 36, 3) by decide +kernel) (show pl 9 36 = some (0, 9, 8, 0) by decide +kernel) (by decide) (se_ok hG h_a 0 (by decide)) ex13 ?_
          refine e_P (st' := [aI 20, aI x13]) (show decode (mC 85) 72 = .ok (.bipush 20, 2) by decide +kernel) rfl rfl rfl ?_
          refine e_ge2 (t := 83) (show decode (mC 85) 74 = .ok (.if_icmp .ge 9, 3) by decide +kernel) (by decide) (s35 p1 p2 p3 p4) (by decide) (fun p5 => ?_) (fun p5 => ?_)
          · refine e_L (L' := [some (aR a), some (aI v1), some (aI u0), some (aI 1), none]) (st' := [aR a]) (show decode (mC 85) 83 = .ok (.aload_n 0, 1) by decide +kernel) rfl (by show (if a = 0 then none else some (_, _)) = _; rw [if_neg (show ¬ a = 0 from se_ne h_a 0)]) ?_
            refine e_getR (w := 2) (show decode (mC 85) 84 = .ok (.getfield 24, 3) by decide +kernel) (show pl 9 24 = some (0, 9, 0, 0) by decide +kernel) (by decide) (se_ok hG h_a 0 (by decide)) (se_r0 hG h_a) ?_
            refine e_P (st' := [aI 4, aR 2]) (show decode (mC 85) 87 = .ok (.iconst 4, 1) by decide +kernel) rfl rfl rfl ?_
            exact e_V (as := [aR 2, aI 4]) (rest := []) (show decode (mC 85) 88 = .ok (.invokevirtual 91, 3) by decide +kernel) (by decide +kernel) (show (decide ((2 : Nat) = mA 99) && decide (99 < q_law)) = true by decide +kernel) rfl (show (0 : Nat) ≤ 8 by decide) (show (2 : Nat) ≤ mL 99 by decide +kernel) rfl (sh_ok hG (by decide +kernel)) (tm_le hQ (leN (leN (leN (leN (leS leE))))) (m36 p1 p2 p3 p4 p5))
          · refine e_L (L' := [some (aR a), some (aI v1), some (aI u0), some (aI 1), none]) (st' := [aI v1]) (show decode (mC 85) 77 = .ok (.iload_n 1, 1) by decide +kernel) rfl rfl ?_
            refine e_P (st' := [aI 8, aI v1]) (show decode (mC 85) 78 = .ok (.bipush 8, 2) by decide +kernel) rfl rfl rfl ?_
            refine e_le2 (t := 92) (show decode (mC 85) 80 = .ok (.if_icmp .le 12, 3) by decide +kernel) (by decide) (s37 p1 p2 p3 p4 p5) (by decide) (fun p6 => ?_) (fun p6 => ?_)
            · refine e_L (L' := [some (aR a), some (aI v1), some (aI u0), some (aI 1), none]) (st' := [aR a]) (show decode (mC 85) 92 = .ok (.aload_n 0, 1) by decide +kernel) rfl (by show (if a = 0 then none else some (_, _)) = _; rw [if_neg (show ¬ a = 0 from se_ne h_a 0)]) ?_
              refine e_P (st' := [aR a, aR a]) (show decode (mC 85) 93 = .ok (.dup, 1) by decide +kernel) rfl rfl rfl ?_
              refine e_getIx (show decode (mC 85) 94 = .ok (.getfield 36, 3) by decide +kernel) (show pl 9 36 = some (0, 9, 8, 0) by decide +kernel) (by decide) (se_ok hG h_a 0 (by decide)) ex14 ?_
              refine e_P (st' := [aI 1, aI x14, aR a]) (show decode (mC 85) 97 = .ok (.iconst 1, 1) by decide +kernel) rfl rfl rfl ?_
              refine e_P (st' := [aI (x14 + 1), aR a]) (show decode (mC 85) 98 = .ok (.iadd, 1) by decide +kernel) rfl rfl rfl ?_
              refine e_putI (show decode (mC 85) 99 = .ok (.putfield 36, 3) by decide +kernel) (show pl 9 36 = some (0, 9, 8, 0) by decide +kernel) (by decide) (se_ok hG h_a 0 (by decide)) ?_
              refine e_L (L' := [some (aR a), some (aI v1), some (aI u0), some (aI 1), none]) (st' := [aR a]) (show decode (mC 85) 102 = .ok (.aload_n 0, 1) by decide +kernel) rfl (by show (if a = 0 then none else some (_, _)) = _; rw [if_neg (show ¬ a = 0 from se_ne h_a 0)]) ?_
              refine e_getR (w := 2) (show decode (mC 85) 103 = .ok (.getfield 24, 3) by decide +kernel) (show pl 9 24 = some (0, 9, 0, 0) by decide +kernel) (by decide) (se_ok hG h_a 0 (by decide)) (se_r0 hG h_a) ?_
              refine e_getIx (show decode (mC 85) 106 = .ok (.getfield 89, 3) by decide +kernel) (show pl 9 89 = some (0, 10, 12, 0) by decide +kernel) (by decide) (sh_ok hG (by decide +kernel)) ex15 ?_
              refine e_L (L' := [some (aR a), some (aI v1), some (aI u0), some (aI 1), some (aI x15)]) (st' := []) (show decode (mC 85) 109 = .ok (.istore 4, 2) by decide +kernel) rfl rfl ?_
              refine e_L (L' := [some (aR a), some (aI v1), some (aI u0), some (aI 1), some (aI x15)]) (st' := [aR a]) (show decode (mC 85) 111 = .ok (.aload_n 0, 1) by decide +kernel) rfl (by show (if a = 0 then none else some (_, _)) = _; rw [if_neg (show ¬ a = 0 from se_ne h_a 0)]) ?_
              refine e_getR (w := 2) (show decode (mC 85) 112 = .ok (.getfield 24, 3) by decide +kernel) (show pl 9 24 = some (0, 9, 0, 0) by decide +kernel) (by decide) (se_ok hG h_a 0 (by decide)) (se_r0 hG h_a) ?_
              exact e_V (as := [aR 2]) (rest := []) (show decode (mC 85) 115 = .ok (.invokevirtual 72, 3) by decide +kernel) (by decide +kernel) (show (decide ((1 : Nat) = mA 98) && decide (98 < q_law)) = true by decide +kernel) rfl (show (0 : Nat) ≤ 8 by decide) (show (1 : Nat) ≤ mL 98 by decide +kernel) rfl (sh_ok hG (by decide +kernel)) (tm_le hQ (leS (leS (leS (leN (leS leE))))) (m40 p1 p2 p3 p4 p5 p6))
            · refine e_L (L' := [some (aR a), some (aI v1), some (aI u0), some (aI 1), none]) (st' := [aR a]) (show decode (mC 85) 83 = .ok (.aload_n 0, 1) by decide +kernel) rfl (by show (if a = 0 then none else some (_, _)) = _; rw [if_neg (show ¬ a = 0 from se_ne h_a 0)]) ?_
              refine e_getR (w := 2) (show decode (mC 85) 84 = .ok (.getfield 24, 3) by decide +kernel) (show pl 9 24 = some (0, 9, 0, 0) by decide +kernel) (by decide) (se_ok hG h_a 0 (by decide)) (se_r0 hG h_a) ?_
              refine e_P (st' := [aI 4, aR 2]) (show decode (mC 85) 87 = .ok (.iconst 4, 1) by decide +kernel) rfl rfl rfl ?_
              exact e_V (as := [aR 2, aI 4]) (rest := []) (show decode (mC 85) 88 = .ok (.invokevirtual 91, 3) by decide +kernel) (by decide +kernel) (show (decide ((2 : Nat) = mA 99) && decide (99 < q_law)) = true by decide +kernel) rfl (show (0 : Nat) ≤ 8 by decide) (show (2 : Nat) ≤ mL 99 by decide +kernel) rfl (sh_ok hG (by decide +kernel)) (tm_le hQ (leN (leN (leN (leN (leS leE))))) (m41 p1 p2 p3 p4 p5 p6))
/-- SoulOffice$Sentence.readOne(I)Z, from 49 -/
theorem b85_49 (hG : Shp G) {v1 v2 x1 x2 x3 : Int} {a : Nat} (h_a : Sent a) (hQ : ∀ o o' h', q_eqo o o' → Q o h' → Q o' h')
    (s0 : -2147483648 ≤ v2 ∧ v2 < 2147483648)
    (ex1 : c a 8 = x1)
    (s2 : (¬ v2 = 0) → -2147483648 ≤ x1 ∧ x1 < 2147483648)
    (m3 : (¬ v2 = 0) → (20 ≤ x1) → TM d 99 [aR 2, aI 4] (G, c) (fun r h' => T (d + 1) 85 91 [none, none, none, none, none] (r.toList ++ []) h' Q))
    (s4 : (¬ v2 = 0) → (x1 < 20) → -2147483648 ≤ v1 ∧ v1 < 2147483648)
    (ex2 : c a 8 = x2)
    (ex3 : (q_up c a 8 (x2 + 1)) 2 12 = x3)
    (m7 : (¬ v2 = 0) → (x1 < 20) → (v1 ≤ 8) → TM d 98 [aR 2] (G, (q_up c a 8 (x2 + 1))) (fun r h' => T (d + 1) 85 118 [some (aR a), some (aI v1), some (aI v2), none, some (aI x3)] (r.toList ++ []) h' Q))
    (m8 : (¬ v2 = 0) → (x1 < 20) → (8 < v1) → TM d 99 [aR 2, aI 4] (G, c) (fun r h' => T (d + 1) 85 91 [none, none, none, none, none] (r.toList ++ []) h' Q))
    (m9 : (v2 = 0) → TM d 99 [aR 2, aI 1] (G, c) (fun r h' => T (d + 1) 85 67 [none, none, none, none, none] (r.toList ++ []) h' Q)) :
    T (d + 1) 85 49 [some (aR a), some (aI v1), some (aI v2), none, none] [] (G, c) Q := by
  refine e_P (st' := [aI 0]) (show decode (mC 85) 49 = .ok (.iconst 0, 1) by decide +kernel) rfl rfl rfl ?_
  refine e_L (L' := [some (aR a), some (aI v1), some (aI v2), some (aI 0), none]) (st' := []) (show decode (mC 85) 50 = .ok (.istore_n 3, 1) by decide +kernel) rfl rfl ?_
  refine e_L (L' := [some (aR a), some (aI v1), some (aI v2), some (aI 0), none]) (st' := [aI v2]) (show decode (mC 85) 51 = .ok (.iload_n 2, 1) by decide +kernel) rfl rfl ?_
  refine e_ne1 (t := 68) (show decode (mC 85) 52 = .ok (.ifCond .ne 16, 3) by decide +kernel) (by decide) s0 (fun p1 => ?_) (fun p1 => ?_)
  · refine e_L (L' := [some (aR a), some (aI v1), some (aI v2), some (aI 0), none]) (st' := [aR a]) (show decode (mC 85) 68 = .ok (.aload_n 0, 1) by decide +kernel) rfl (by show (if a = 0 then none else some (_, _)) = _; rw [if_neg (show ¬ a = 0 from se_ne h_a 0)]) ?_
    refine e_getIx (show decode (mC 85) 69 = .ok (.getfield 36, 3) by decide +kernel) (show pl 9 36 = some (0, 9, 8, 0) by decide +kernel) (by decide) (se_ok hG h_a 0 (by decide)) ex1 ?_
    refine e_P (st' := [aI 20, aI x1]) (show decode (mC 85) 72 = .ok (.bipush 20, 2) by decide +kernel) rfl rfl rfl ?_
    refine e_ge2 (t := 83) (show decode (mC 85) 74 = .ok (.if_icmp .ge 9, 3) by decide +kernel) (by decide) (s2 p1) (by decide) (fun p2 => ?_) (fun p2 => ?_)
    · refine e_L (L' := [some (aR a), some (aI v1), some (aI v2), some (aI 0), none]) (st' := [aR a]) (show decode (mC 85) 83 = .ok (.aload_n 0, 1) by decide +kernel) rfl (by show (if a = 0 then none else some (_, _)) = _; rw [if_neg (show ¬ a = 0 from se_ne h_a 0)]) ?_
      refine e_getR (w := 2) (show decode (mC 85) 84 = .ok (.getfield 24, 3) by decide +kernel) (show pl 9 24 = some (0, 9, 0, 0) by decide +kernel) (by decide) (se_ok hG h_a 0 (by decide)) (se_r0 hG h_a) ?_
      refine e_P (st' := [aI 4, aR 2]) (show decode (mC 85) 87 = .ok (.iconst 4, 1) by decide +kernel) rfl rfl rfl ?_
      exact e_V (as := [aR 2, aI 4]) (rest := []) (show decode (mC 85) 88 = .ok (.invokevirtual 91, 3) by decide +kernel) (by decide +kernel) (show (decide ((2 : Nat) = mA 99) && decide (99 < q_law)) = true by decide +kernel) rfl (show (0 : Nat) ≤ 8 by decide) (show (2 : Nat) ≤ mL 99 by decide +kernel) rfl (sh_ok hG (by decide +kernel)) (tm_le hQ (leN (leN (leN (leN (leS leE))))) (m3 p1 p2))
    · refine e_L (L' := [some (aR a), some (aI v1), some (aI v2), some (aI 0), none]) (st' := [aI v1]) (show decode (mC 85) 77 = .ok (.iload_n 1, 1) by decide +kernel) rfl rfl ?_
      refine e_P (st' := [aI 8, aI v1]) (show decode (mC 85) 78 = .ok (.bipush 8, 2) by decide +kernel) rfl rfl rfl ?_
      refine e_le2 (t := 92) (show decode (mC 85) 80 = .ok (.if_icmp .le 12, 3) by decide +kernel) (by decide) (s4 p1 p2) (by decide) (fun p3 => ?_) (fun p3 => ?_)
      · refine e_L (L' := [some (aR a), some (aI v1), some (aI v2), some (aI 0), none]) (st' := [aR a]) (show decode (mC 85) 92 = .ok (.aload_n 0, 1) by decide +kernel) rfl (by show (if a = 0 then none else some (_, _)) = _; rw [if_neg (show ¬ a = 0 from se_ne h_a 0)]) ?_
        refine e_P (st' := [aR a, aR a]) (show decode (mC 85) 93 = .ok (.dup, 1) by decide +kernel) rfl rfl rfl ?_
        refine e_getIx (show decode (mC 85) 94 = .ok (.getfield 36, 3) by decide +kernel) (show pl 9 36 = some (0, 9, 8, 0) by decide +kernel) (by decide) (se_ok hG h_a 0 (by decide)) ex2 ?_
        refine e_P (st' := [aI 1, aI x2, aR a]) (show decode (mC 85) 97 = .ok (.iconst 1, 1) by decide +kernel) rfl rfl rfl ?_
        refine e_P (st' := [aI (x2 + 1), aR a]) (show decode (mC 85) 98 = .ok (.iadd, 1) by decide +kernel) rfl rfl rfl ?_
        refine e_putI (show decode (mC 85) 99 = .ok (.putfield 36, 3) by decide +kernel) (show pl 9 36 = some (0, 9, 8, 0) by decide +kernel) (by decide) (se_ok hG h_a 0 (by decide)) ?_
        refine e_L (L' := [some (aR a), some (aI v1), some (aI v2), some (aI 0), none]) (st' := [aR a]) (show decode (mC 85) 102 = .ok (.aload_n 0, 1) by decide +kernel) rfl (by show (if a = 0 then none else some (_, _)) = _; rw [if_neg (show ¬ a = 0 from se_ne h_a 0)]) ?_
        refine e_getR (w := 2) (show decode (mC 85) 103 = .ok (.getfield 24, 3) by decide +kernel) (show pl 9 24 = some (0, 9, 0, 0) by decide +kernel) (by decide) (se_ok hG h_a 0 (by decide)) (se_r0 hG h_a) ?_
        refine e_getIx (show decode (mC 85) 106 = .ok (.getfield 89, 3) by decide +kernel) (show pl 9 89 = some (0, 10, 12, 0) by decide +kernel) (by decide) (sh_ok hG (by decide +kernel)) ex3 ?_
        refine e_L (L' := [some (aR a), some (aI v1), some (aI v2), some (aI 0), some (aI x3)]) (st' := []) (show decode (mC 85) 109 = .ok (.istore 4, 2) by decide +kernel) rfl rfl ?_
        refine e_L (L' := [some (aR a), some (aI v1), some (aI v2), some (aI 0), some (aI x3)]) (st' := [aR a]) (show decode (mC 85) 111 = .ok (.aload_n 0, 1) by decide +kernel) rfl (by show (if a = 0 then none else some (_, _)) = _; rw [if_neg (show ¬ a = 0 from se_ne h_a 0)]) ?_
        refine e_getR (w := 2) (show decode (mC 85) 112 = .ok (.getfield 24, 3) by decide +kernel) (show pl 9 24 = some (0, 9, 0, 0) by decide +kernel) (by decide) (se_ok hG h_a 0 (by decide)) (se_r0 hG h_a) ?_
        exact e_V (as := [aR 2]) (rest := []) (show decode (mC 85) 115 = .ok (.invokevirtual 72, 3) by decide +kernel) (by decide +kernel) (show (decide ((1 : Nat) = mA 98) && decide (98 < q_law)) = true by decide +kernel) rfl (show (0 : Nat) ≤ 8 by decide) (show (1 : Nat) ≤ mL 98 by decide +kernel) rfl (sh_ok hG (by decide +kernel)) (tm_le hQ (leS (leS (leS (leN (leS leE))))) (m7 p1 p2 p3))
      · refine e_L (L' := [some (aR a), some (aI v1), some (aI v2), some (aI 0), none]) (st' := [aR a]) (show decode (mC 85) 83 = .ok (.aload_n 0, 1) by decide +kernel) rfl (by show (if a = 0 then none else some (_, _)) = _; rw [if_neg (show ¬ a = 0 from se_ne h_a 0)]) ?_
        refine e_getR (w := 2) (show decode (mC 85) 84 = .ok (.getfield 24, 3) by decide +kernel) (show pl 9 24 = some (0, 9, 0, 0) by decide +kernel) (by decide) (se_ok hG h_a 0 (by decide)) (se_r0 hG h_a) ?_
        refine e_P (st' := [aI 4, aR 2]) (show decode (mC 85) 87 = .ok (.iconst 4, 1) by decide +kernel) rfl rfl rfl ?_
        exact e_V (as := [aR 2, aI 4]) (rest := []) (show decode (mC 85) 88 = .ok (.invokevirtual 91, 3) by decide +kernel) (by decide +kernel) (show (decide ((2 : Nat) = mA 99) && decide (99 < q_law)) = true by decide +kernel) rfl (show (0 : Nat) ≤ 8 by decide) (show (2 : Nat) ≤ mL 99 by decide +kernel) rfl (sh_ok hG (by decide +kernel)) (tm_le hQ (leN (leN (leN (leN (leS leE))))) (m8 p1 p2 p3))
  · refine e_L (L' := [some (aR a), some (aI v1), some (aI v2), some (aI 0), none]) (st' := [aI 0]) (show decode (mC 85) 55 = .ok (.iload_n 3, 1) by decide +kernel) rfl rfl ?_
    refine e_ne1 (t := 68) (show decode (mC 85) 56 = .ok (.ifCond .ne 12, 3) by decide +kernel) (by decide) (by decide) (fun h => absurd h (by decide)) (fun _ => ?_)
    refine e_L (L' := [some (aR a), some (aI v1), some (aI v2), some (aI 0), none]) (st' := [aR a]) (show decode (mC 85) 59 = .ok (.aload_n 0, 1) by decide +kernel) rfl (by show (if a = 0 then none else some (_, _)) = _; rw [if_neg (show ¬ a = 0 from se_ne h_a 0)]) ?_
    refine e_getR (w := 2) (show decode (mC 85) 60 = .ok (.getfield 24, 3) by decide +kernel) (show pl 9 24 = some (0, 9, 0, 0) by decide +kernel) (by decide) (se_ok hG h_a 0 (by decide)) (se_r0 hG h_a) ?_
    refine e_P (st' := [aI 1, aR 2]) (show decode (mC 85) 63 = .ok (.iconst 1, 1) by decide +kernel) rfl rfl rfl ?_
    exact e_V (as := [aR 2, aI 1]) (rest := []) (show decode (mC 85) 64 = .ok (.invokevirtual 91, 3) by decide +kernel) (by decide +kernel) (show (decide ((2 : Nat) = mA 99) && decide (99 < q_law)) = true by decide +kernel) rfl (show (0 : Nat) ≤ 8 by decide) (show (2 : Nat) ≤ mL 99 by decide +kernel) rfl (sh_ok hG (by decide +kernel)) (tm_le hQ (leN (leN (leN (leN (leS leE))))) (m9 p1))
/-- SoulOffice$Sentence.readOne(I)Z, from 67 -/
theorem b85_67 (hG : Shp G) {u0 : Int}
    (s0 : u0 = 0 ∨ u0 = 1)
    (z1 : Q (.inl (some (aI u0))) (G, c)) :
    T (d + 1) 85 67 [none, none, none, none, none] [aI u0] (G, c) Q := by
  exact e_zret (show decode (mC 85) 67 = .ok (.ireturn, 1) by decide +kernel) rfl s0 z1
/-- SoulOffice$Sentence.readOne(I)Z, from 91 -/
theorem b85_91 (hG : Shp G) {u0 : Int}
    (s0 : u0 = 0 ∨ u0 = 1)
    (z1 : Q (.inl (some (aI u0))) (G, c)) :
    T (d + 1) 85 91 [none, none, none, none, none] [aI u0] (G, c) Q := by
  exact e_zret (show decode (mC 85) 91 = .ok (.ireturn, 1) by decide +kernel) rfl s0 z1
/-- SoulOffice$Sentence.readOne(I)Z, from 118 -/
theorem b85_118 (hG : Shp G) {v1 v2 v4 x1 x2 : Int} {a : Nat} (h_a : Sent a) (hQ : ∀ o o' h', q_eqo o o' → Q o h' → Q o' h')
    (s0 : -2147483648 ≤ v2 ∧ v2 < 2147483648)
    (s1 : (v2 = 0) → -2147483648 ≤ v4 ∧ v4 < 2147483648)
    (m2 : (v2 = 0) → (v4 < 7 ∨ 14 < v4) → TM d 87 [aR a, aI v4] (G, c) (fun r h' => T (d + 1) 85 263 [none, none, none, none, none] (r.toList ++ []) h' Q))
    (ex1 : c 9 0 = x1)
    (m4 : (v2 = 0) → (v4 = 7) → TM d 86 [aR a, aI 7, aR 10, aI x1] (G, c) (fun r h' => T (d + 1) 85 235 [none, none, none, none, none] (r.toList ++ []) h' Q))
    (m5 : (v2 = 0) → (v4 = 8) → TM d 87 [aR a, aI v4] (G, c) (fun r h' => T (d + 1) 85 263 [none, none, none, none, none] (r.toList ++ []) h' Q))
    (m6 : (v2 = 0) → (v4 = 9) → TM d 87 [aR a, aI v4] (G, c) (fun r h' => T (d + 1) 85 263 [none, none, none, none, none] (r.toList ++ []) h' Q))
    (m7 : (v2 = 0) → (v4 = 10) → TM d 87 [aR a, aI v4] (G, c) (fun r h' => T (d + 1) 85 263 [none, none, none, none, none] (r.toList ++ []) h' Q))
    (m8 : (v2 = 0) → (v4 = 11) → TM d 87 [aR a, aI v4] (G, c) (fun r h' => T (d + 1) 85 263 [none, none, none, none, none] (r.toList ++ []) h' Q))
    (m9 : (v2 = 0) → (v4 = 12) → TM d 270 [aR a, aI v1] (G, c) (fun r h' => T (d + 1) 85 205 [none, none, none, none, none] (r.toList ++ []) h' Q))
    (m10 : (v2 = 0) → (v4 = 13) → TM d 88 [aR a, aI 13, aI 0, aI 0] (G, c) (fun r h' => T (d + 1) 85 214 [none, none, none, none, none] (r.toList ++ []) h' Q))
    (ex2 : c 9 1 = x2)
    (m12 : (v2 = 0) → (v4 = 14) → TM d 86 [aR a, aI 14, aR 11, aI x2] (G, c) (fun r h' => T (d + 1) 85 256 [none, none, none, none, none] (r.toList ++ []) h' Q))
    (m13 : (¬ v2 = 0) → TM d 83 [aR a, aI (v1 + 1)] (G, c) (fun r h' => T (d + 1) 85 129 [some (aR a), none, none, none, none] (r.toList ++ []) h' Q)) :
    T (d + 1) 85 118 [some (aR a), some (aI v1), some (aI v2), none, some (aI v4)] [] (G, c) Q := by
  refine e_L (L' := [some (aR a), some (aI v1), some (aI v2), none, some (aI v4)]) (st' := [aI v2]) (show decode (mC 85) 118 = .ok (.iload_n 2, 1) by decide +kernel) rfl rfl ?_
  refine e_eq1 (t := 150) (show decode (mC 85) 119 = .ok (.ifCond .eq 31, 3) by decide +kernel) (by decide) s0 (fun p1 => ?_) (fun p1 => ?_)
  · refine e_L (L' := [some (aR a), some (aI v1), some (aI v2), none, some (aI v4)]) (st' := [aI v4]) (show decode (mC 85) 150 = .ok (.iload 4, 2) by decide +kernel) rfl rfl ?_
    rcases (show (v4 < 7 ∨ 14 < v4) ∨ v4 = 7 ∨ v4 = 8 ∨ v4 = 9 ∨ v4 = 10 ∨ v4 = 11 ∨ v4 = 12 ∨ v4 = 13 ∨ v4 = 14 by omega) with p2 | p2 | p2 | p2 | p2 | p2 | p2 | p2 | p2
    · refine e_swd (t := 257) (show decode (mC 85) 152 = .ok (.tableswitch 105 7 14 #[63, 105, 105, 105, 105, 48, 54, 84], 48) by decide +kernel) (s1 p1) p2 (by decide) ?_
      refine e_L (L' := [some (aR a), some (aI v1), some (aI v2), none, some (aI v4)]) (st' := [aR a]) (show decode (mC 85) 257 = .ok (.aload_n 0, 1) by decide +kernel) rfl (by show (if a = 0 then none else some (_, _)) = _; rw [if_neg (show ¬ a = 0 from se_ne h_a 0)]) ?_
      refine e_L (L' := [some (aR a), some (aI v1), some (aI v2), none, some (aI v4)]) (st' := [aI v4, aR a]) (show decode (mC 85) 258 = .ok (.iload 4, 2) by decide +kernel) rfl rfl ?_
      exact e_V (as := [aR a, aI v4]) (rest := []) (show decode (mC 85) 260 = .ok (.invokevirtual 119, 3) by decide +kernel) (by decide +kernel) (show (decide ((2 : Nat) = mA 87) && decide (87 < q_law)) = true by decide +kernel) rfl (show (0 : Nat) ≤ 8 by decide) (show (2 : Nat) ≤ mL 87 by decide +kernel) rfl (se_ok hG h_a 0 (by decide)) (tm_le hQ (leN (leN (leN (leS (leN leE))))) (m2 p1 p2))
    · refine e_swj (off := 63) (t := 215) 7 (show decode (mC 85) 152 = .ok (.tableswitch 105 7 14 #[63, 105, 105, 105, 105, 48, 54, 84], 48) by decide +kernel) p2 (by decide +kernel) ?_
      refine e_L (L' := [some (aR a), some (aI v1), some (aI v2), none, some (aI v4)]) (st' := [aR a]) (show decode (mC 85) 215 = .ok (.aload_n 0, 1) by decide +kernel) rfl (by show (if a = 0 then none else some (_, _)) = _; rw [if_neg (show ¬ a = 0 from se_ne h_a 0)]) ?_
      refine e_P (st' := [aI 7, aR a]) (show decode (mC 85) 216 = .ok (.bipush 7, 2) by decide +kernel) rfl rfl rfl ?_
      refine e_L (L' := [some (aR a), some (aI v1), some (aI v2), none, some (aI v4)]) (st' := [aR a, aI 7, aR a]) (show decode (mC 85) 218 = .ok (.aload_n 0, 1) by decide +kernel) rfl (by show (if a = 0 then none else some (_, _)) = _; rw [if_neg (show ¬ a = 0 from se_ne h_a 0)]) ?_
      refine e_getR (w := 9) (show decode (mC 85) 219 = .ok (.getfield 28, 3) by decide +kernel) (show pl 9 28 = some (0, 9, 1, 0) by decide +kernel) (by decide) (se_ok hG h_a 0 (by decide)) (se_r1 hG h_a) ?_
      refine e_getR (w := 10) (show decode (mC 85) 222 = .ok (.getfield 100, 3) by decide +kernel) (show pl 9 100 = some (0, 8, 3, 0) by decide +kernel) (by decide) (sh_ok hG (by decide +kernel)) (sh_rf hG (by decide +kernel)) ?_
      refine e_L (L' := [some (aR a), some (aI v1), some (aI v2), none, some (aI v4)]) (st' := [aR a, aR 10, aI 7, aR a]) (show decode (mC 85) 225 = .ok (.aload_n 0, 1) by decide +kernel) rfl (by show (if a = 0 then none else some (_, _)) = _; rw [if_neg (show ¬ a = 0 from se_ne h_a 0)]) ?_
      refine e_getR (w := 9) (show decode (mC 85) 226 = .ok (.getfield 28, 3) by decide +kernel) (show pl 9 28 = some (0, 9, 1, 0) by decide +kernel) (by decide) (se_ok hG h_a 0 (by decide)) (se_r1 hG h_a) ?_
      refine e_getIx (show decode (mC 85) 229 = .ok (.getfield 106, 3) by decide +kernel) (show pl 9 106 = some (0, 8, 0, 0) by decide +kernel) (by decide) (sh_ok hG (by decide +kernel)) ex1 ?_
      exact e_V (as := [aR a, aI 7, aR 10, aI x1]) (rest := []) (show decode (mC 85) 232 = .ok (.invokevirtual 109, 3) by decide +kernel) (by decide +kernel) (show (decide ((4 : Nat) = mA 86) && decide (86 < q_law)) = true by decide +kernel) rfl (show (0 : Nat) ≤ 8 by decide) (show (4 : Nat) ≤ mL 86 by decide +kernel) rfl (se_ok hG h_a 0 (by decide)) (tm_le hQ (leN (leN (leN (leS (leN leE))))) (m4 p1 p2))
    · refine e_swj (off := 105) (t := 257) 8 (show decode (mC 85) 152 = .ok (.tableswitch 105 7 14 #[63, 105, 105, 105, 105, 48, 54, 84], 48) by decide +kernel) p2 (by decide +kernel) ?_
      refine e_L (L' := [some (aR a), some (aI v1), some (aI v2), none, some (aI v4)]) (st' := [aR a]) (show decode (mC 85) 257 = .ok (.aload_n 0, 1) by decide +kernel) rfl (by show (if a = 0 then none else some (_, _)) = _; rw [if_neg (show ¬ a = 0 from se_ne h_a 0)]) ?_
      refine e_L (L' := [some (aR a), some (aI v1), some (aI v2), none, some (aI v4)]) (st' := [aI v4, aR a]) (show decode (mC 85) 258 = .ok (.iload 4, 2) by decide +kernel) rfl rfl ?_
      exact e_V (as := [aR a, aI v4]) (rest := []) (show decode (mC 85) 260 = .ok (.invokevirtual 119, 3) by decide +kernel) (by decide +kernel) (show (decide ((2 : Nat) = mA 87) && decide (87 < q_law)) = true by decide +kernel) rfl (show (0 : Nat) ≤ 8 by decide) (show (2 : Nat) ≤ mL 87 by decide +kernel) rfl (se_ok hG h_a 0 (by decide)) (tm_le hQ (leN (leN (leN (leS (leN leE))))) (m5 p1 p2))
    · refine e_swj (off := 105) (t := 257) 9 (show decode (mC 85) 152 = .ok (.tableswitch 105 7 14 #[63, 105, 105, 105, 105, 48, 54, 84], 48) by decide +kernel) p2 (by decide +kernel) ?_
      refine e_L (L' := [some (aR a), some (aI v1), some (aI v2), none, some (aI v4)]) (st' := [aR a]) (show decode (mC 85) 257 = .ok (.aload_n 0, 1) by decide +kernel) rfl (by show (if a = 0 then none else some (_, _)) = _; rw [if_neg (show ¬ a = 0 from se_ne h_a 0)]) ?_
      refine e_L (L' := [some (aR a), some (aI v1), some (aI v2), none, some (aI v4)]) (st' := [aI v4, aR a]) (show decode (mC 85) 258 = .ok (.iload 4, 2) by decide +kernel) rfl rfl ?_
      exact e_V (as := [aR a, aI v4]) (rest := []) (show decode (mC 85) 260 = .ok (.invokevirtual 119, 3) by decide +kernel) (by decide +kernel) (show (decide ((2 : Nat) = mA 87) && decide (87 < q_law)) = true by decide +kernel) rfl (show (0 : Nat) ≤ 8 by decide) (show (2 : Nat) ≤ mL 87 by decide +kernel) rfl (se_ok hG h_a 0 (by decide)) (tm_le hQ (leN (leN (leN (leS (leN leE))))) (m6 p1 p2))
    · refine e_swj (off := 105) (t := 257) 10 (show decode (mC 85) 152 = .ok (.tableswitch 105 7 14 #[63, 105, 105, 105, 105, 48, 54, 84], 48) by decide +kernel) p2 (by decide +kernel) ?_
      refine e_L (L' := [some (aR a), some (aI v1), some (aI v2), none, some (aI v4)]) (st' := [aR a]) (show decode (mC 85) 257 = .ok (.aload_n 0, 1) by decide +kernel) rfl (by show (if a = 0 then none else some (_, _)) = _; rw [if_neg (show ¬ a = 0 from se_ne h_a 0)]) ?_
      refine e_L (L' := [some (aR a), some (aI v1), some (aI v2), none, some (aI v4)]) (st' := [aI v4, aR a]) (show decode (mC 85) 258 = .ok (.iload 4, 2) by decide +kernel) rfl rfl ?_
      exact e_V (as := [aR a, aI v4]) (rest := []) (show decode (mC 85) 260 = .ok (.invokevirtual 119, 3) by decide +kernel) (by decide +kernel) (show (decide ((2 : Nat) = mA 87) && decide (87 < q_law)) = true by decide +kernel) rfl (show (0 : Nat) ≤ 8 by decide) (show (2 : Nat) ≤ mL 87 by decide +kernel) rfl (se_ok hG h_a 0 (by decide)) (tm_le hQ (leN (leN (leN (leS (leN leE))))) (m7 p1 p2))
    · refine e_swj (off := 105) (t := 257) 11 (show decode (mC 85) 152 = .ok (.tableswitch 105 7 14 #[63, 105, 105, 105, 105, 48, 54, 84], 48) by decide +kernel) p2 (by decide +kernel) ?_
      refine e_L (L' := [some (aR a), some (aI v1), some (aI v2), none, some (aI v4)]) (st' := [aR a]) (show decode (mC 85) 257 = .ok (.aload_n 0, 1) by decide +kernel) rfl (by show (if a = 0 then none else some (_, _)) = _; rw [if_neg (show ¬ a = 0 from se_ne h_a 0)]) ?_
      refine e_L (L' := [some (aR a), some (aI v1), some (aI v2), none, some (aI v4)]) (st' := [aI v4, aR a]) (show decode (mC 85) 258 = .ok (.iload 4, 2) by decide +kernel) rfl rfl ?_
      exact e_V (as := [aR a, aI v4]) (rest := []) (show decode (mC 85) 260 = .ok (.invokevirtual 119, 3) by decide +kernel) (by decide +kernel) (show (decide ((2 : Nat) = mA 87) && decide (87 < q_law)) = true by decide +kernel) rfl (show (0 : Nat) ≤ 8 by decide) (show (2 : Nat) ≤ mL 87 by decide +kernel) rfl (se_ok hG h_a 0 (by decide)) (tm_le hQ (leN (leN (leN (leS (leN leE))))) (m8 p1 p2))
    · refine e_swj (off := 48) (t := 200) 12 (show decode (mC 85) 152 = .ok (.tableswitch 105 7 14 #[63, 105, 105, 105, 105, 48, 54, 84], 48) by decide +kernel) p2 (by decide +kernel) ?_
      refine e_L (L' := [some (aR a), some (aI v1), some (aI v2), none, some (aI v4)]) (st' := [aR a]) (show decode (mC 85) 200 = .ok (.aload_n 0, 1) by decide +kernel) rfl (by show (if a = 0 then none else some (_, _)) = _; rw [if_neg (show ¬ a = 0 from se_ne h_a 0)]) ?_
      refine e_L (L' := [some (aR a), some (aI v1), some (aI v2), none, some (aI v4)]) (st' := [aI v1, aR a]) (show decode (mC 85) 201 = .ok (.iload_n 1, 1) by decide +kernel) rfl rfl ?_
      exact e_V (as := [aR a, aI v1]) (rest := []) (show decode (mC 85) 202 = .ok (.invokevirtual 97, 3) by decide +kernel) (by decide +kernel) (show (decide ((2 : Nat) = mA 270) && decide (270 < q_law)) = true by decide +kernel) rfl (show (0 : Nat) ≤ 8 by decide) (show (2 : Nat) ≤ mL 270 by decide +kernel) rfl (se_ok hG h_a 0 (by decide)) (tm_le hQ (leN (leN (leN (leS (leN leE))))) (m9 p1 p2))
    · refine e_swj (off := 54) (t := 206) 13 (show decode (mC 85) 152 = .ok (.tableswitch 105 7 14 #[63, 105, 105, 105, 105, 48, 54, 84], 48) by decide +kernel) p2 (by decide +kernel) ?_
      refine e_L (L' := [some (aR a), some (aI v1), some (aI v2), none, some (aI v4)]) (st' := [aR a]) (show decode (mC 85) 206 = .ok (.aload_n 0, 1) by decide +kernel) rfl (by show (if a = 0 then none else some (_, _)) = _; rw [if_neg (show ¬ a = 0 from se_ne h_a 0)]) ?_
      refine e_P (st' := [aI 13, aR a]) (show decode (mC 85) 207 = .ok (.bipush 13, 2) by decide +kernel) rfl rfl rfl ?_
      refine e_P (st' := [aI 0, aI 13, aR a]) (show decode (mC 85) 209 = .ok (.iconst 0, 1) by decide +kernel) rfl rfl rfl ?_
      refine e_P (st' := [aI 0, aI 0, aI 13, aR a]) (show decode (mC 85) 210 = .ok (.iconst 0, 1) by decide +kernel) rfl rfl rfl ?_
      exact e_V (as := [aR a, aI 13, aI 0, aI 0]) (rest := []) (show decode (mC 85) 211 = .ok (.invokevirtual 75, 3) by decide +kernel) (by decide +kernel) (show (decide ((4 : Nat) = mA 88) && decide (88 < q_law)) = true by decide +kernel) rfl (show (0 : Nat) ≤ 8 by decide) (show (4 : Nat) ≤ mL 88 by decide +kernel) rfl (se_ok hG h_a 0 (by decide)) (tm_le hQ (leN (leN (leN (leS (leN leE))))) (m10 p1 p2))
    · refine e_swj (off := 84) (t := 236) 14 (show decode (mC 85) 152 = .ok (.tableswitch 105 7 14 #[63, 105, 105, 105, 105, 48, 54, 84], 48) by decide +kernel) p2 (by decide +kernel) ?_
      refine e_L (L' := [some (aR a), some (aI v1), some (aI v2), none, some (aI v4)]) (st' := [aR a]) (show decode (mC 85) 236 = .ok (.aload_n 0, 1) by decide +kernel) rfl (by show (if a = 0 then none else some (_, _)) = _; rw [if_neg (show ¬ a = 0 from se_ne h_a 0)]) ?_
      refine e_P (st' := [aI 14, aR a]) (show decode (mC 85) 237 = .ok (.bipush 14, 2) by decide +kernel) rfl rfl rfl ?_
      refine e_L (L' := [some (aR a), some (aI v1), some (aI v2), none, some (aI v4)]) (st' := [aR a, aI 14, aR a]) (show decode (mC 85) 239 = .ok (.aload_n 0, 1) by decide +kernel) rfl (by show (if a = 0 then none else some (_, _)) = _; rw [if_neg (show ¬ a = 0 from se_ne h_a 0)]) ?_
      refine e_getR (w := 9) (show decode (mC 85) 240 = .ok (.getfield 28, 3) by decide +kernel) (show pl 9 28 = some (0, 9, 1, 0) by decide +kernel) (by decide) (se_ok hG h_a 0 (by decide)) (se_r1 hG h_a) ?_
      refine e_getR (w := 11) (show decode (mC 85) 243 = .ok (.getfield 113, 3) by decide +kernel) (show pl 9 113 = some (0, 8, 4, 0) by decide +kernel) (by decide) (sh_ok hG (by decide +kernel)) (sh_rf hG (by decide +kernel)) ?_
      refine e_L (L' := [some (aR a), some (aI v1), some (aI v2), none, some (aI v4)]) (st' := [aR a, aR 11, aI 14, aR a]) (show decode (mC 85) 246 = .ok (.aload_n 0, 1) by decide +kernel) rfl (by show (if a = 0 then none else some (_, _)) = _; rw [if_neg (show ¬ a = 0 from se_ne h_a 0)]) ?_
      refine e_getR (w := 9) (show decode (mC 85) 247 = .ok (.getfield 28, 3) by decide +kernel) (show pl 9 28 = some (0, 9, 1, 0) by decide +kernel) (by decide) (se_ok hG h_a 0 (by decide)) (se_r1 hG h_a) ?_
      refine e_getIx (show decode (mC 85) 250 = .ok (.getfield 116, 3) by decide +kernel) (show pl 9 116 = some (0, 8, 1, 0) by decide +kernel) (by decide) (sh_ok hG (by decide +kernel)) ex2 ?_
      exact e_V (as := [aR a, aI 14, aR 11, aI x2]) (rest := []) (show decode (mC 85) 253 = .ok (.invokevirtual 109, 3) by decide +kernel) (by decide +kernel) (show (decide ((4 : Nat) = mA 86) && decide (86 < q_law)) = true by decide +kernel) rfl (show (0 : Nat) ≤ 8 by decide) (show (4 : Nat) ≤ mL 86 by decide +kernel) rfl (se_ok hG h_a 0 (by decide)) (tm_le hQ (leN (leN (leN (leS (leN leE))))) (m12 p1 p2))
  · refine e_L (L' := [some (aR a), some (aI v1), some (aI v2), none, some (aI v4)]) (st' := [aR a]) (show decode (mC 85) 122 = .ok (.aload_n 0, 1) by decide +kernel) rfl (by show (if a = 0 then none else some (_, _)) = _; rw [if_neg (show ¬ a = 0 from se_ne h_a 0)]) ?_
    refine e_L (L' := [some (aR a), some (aI v1), some (aI v2), none, some (aI v4)]) (st' := [aI v1, aR a]) (show decode (mC 85) 123 = .ok (.iload_n 1, 1) by decide +kernel) rfl rfl ?_
    refine e_P (st' := [aI 1, aI v1, aR a]) (show decode (mC 85) 124 = .ok (.iconst 1, 1) by decide +kernel) rfl rfl rfl ?_
    refine e_P (st' := [aI (v1 + 1), aR a]) (show decode (mC 85) 125 = .ok (.iadd, 1) by decide +kernel) rfl rfl rfl ?_
    exact e_V (as := [aR a, aI (v1 + 1)]) (rest := []) (show decode (mC 85) 126 = .ok (.invokevirtual 58, 3) by decide +kernel) (by decide +kernel) (show (decide ((2 : Nat) = mA 83) && decide (83 < q_law)) = true by decide +kernel) rfl (show (0 : Nat) ≤ 8 by decide) (show (2 : Nat) ≤ mL 83 by decide +kernel) rfl (se_ok hG h_a 0 (by decide)) (tm_le hQ (leS (leN (leN (leS (leN leE))))) (m13 p1))
/-- SoulOffice$Sentence.readOne(I)Z, from 129 -/
theorem b85_129 (hG : Shp G) {u0 : Int} {a : Nat} (h_a : Sent a) (hQ : ∀ o o' h', q_eqo o o' → Q o h' → Q o' h')
    (s0 : -2147483648 ≤ u0 ∧ u0 < 2147483648)
    (z1 : (u0 = 0) → Q (.inl (some (aI 0))) (G, c))
    (m2 : (¬ u0 = 0) → TM d 103 [aR 2, aI 41] (G, c) (fun r h' => T (d + 1) 85 141 [none, none, none, none, none] (r.toList ++ []) h' Q)) :
    T (d + 1) 85 129 [some (aR a), none, none, none, none] [aI u0] (G, c) Q := by
  refine e_eq1 (t := 148) (show decode (mC 85) 129 = .ok (.ifCond .eq 19, 3) by decide +kernel) (by decide) s0 (fun p1 => ?_) (fun p1 => ?_)
  · refine e_P (st' := [aI 0]) (show decode (mC 85) 148 = .ok (.iconst 0, 1) by decide +kernel) rfl rfl rfl ?_
    exact e_zret (show decode (mC 85) 149 = .ok (.ireturn, 1) by decide +kernel) rfl (by decide) (z1 p1)
  · refine e_L (L' := [some (aR a), none, none, none, none]) (st' := [aR a]) (show decode (mC 85) 132 = .ok (.aload_n 0, 1) by decide +kernel) rfl (by show (if a = 0 then none else some (_, _)) = _; rw [if_neg (show ¬ a = 0 from se_ne h_a 0)]) ?_
    refine e_getR (w := 2) (show decode (mC 85) 133 = .ok (.getfield 24, 3) by decide +kernel) (show pl 9 24 = some (0, 9, 0, 0) by decide +kernel) (by decide) (se_ok hG h_a 0 (by decide)) (se_r0 hG h_a) ?_
    refine e_P (st' := [aI 41, aR 2]) (show decode (mC 85) 136 = .ok (.bipush 41, 2) by decide +kernel) rfl rfl rfl ?_
    exact e_V (as := [aR 2, aI 41]) (rest := []) (show decode (mC 85) 138 = .ok (.invokevirtual 94, 3) by decide +kernel) (by decide +kernel) (show (decide ((2 : Nat) = mA 103) && decide (103 < q_law)) = true by decide +kernel) rfl (show (0 : Nat) ≤ 8 by decide) (show (2 : Nat) ≤ mL 103 by decide +kernel) rfl (sh_ok hG (by decide +kernel)) (tm_le hQ (leN (leS (leS (leS (leS leE))))) (m2 p1))
/-- SoulOffice$Sentence.readOne(I)Z, from 141 -/
theorem b85_141 (hG : Shp G) {u0 : Int}
    (s0 : -2147483648 ≤ u0 ∧ u0 < 2147483648)
    (z1 : (u0 = 0) → Q (.inl (some (aI 0))) (G, c))
    (z2 : (¬ u0 = 0) → Q (.inl (some (aI 1))) (G, c)) :
    T (d + 1) 85 141 [none, none, none, none, none] [aI u0] (G, c) Q := by
  refine e_eq1 (t := 148) (show decode (mC 85) 141 = .ok (.ifCond .eq 7, 3) by decide +kernel) (by decide) s0 (fun p1 => ?_) (fun p1 => ?_)
  · refine e_P (st' := [aI 0]) (show decode (mC 85) 148 = .ok (.iconst 0, 1) by decide +kernel) rfl rfl rfl ?_
    exact e_zret (show decode (mC 85) 149 = .ok (.ireturn, 1) by decide +kernel) rfl (by decide) (z1 p1)
  · refine e_P (st' := [aI 1]) (show decode (mC 85) 144 = .ok (.iconst 1, 1) by decide +kernel) rfl rfl rfl ?_
    refine e_go (t := 149) (show decode (mC 85) 145 = .ok (.goto 4, 3) by decide +kernel) (by decide) ?_
    exact e_zret (show decode (mC 85) 149 = .ok (.ireturn, 1) by decide +kernel) rfl (by decide) (z2 p1)
/-- SoulOffice$Sentence.readOne(I)Z, from 205 -/
theorem b85_205 (hG : Shp G) {u0 : Int}
    (s0 : u0 = 0 ∨ u0 = 1)
    (z1 : Q (.inl (some (aI u0))) (G, c)) :
    T (d + 1) 85 205 [none, none, none, none, none] [aI u0] (G, c) Q := by
  exact e_zret (show decode (mC 85) 205 = .ok (.ireturn, 1) by decide +kernel) rfl s0 z1
/-- SoulOffice$Sentence.readOne(I)Z, from 214 -/
theorem b85_214 (hG : Shp G) {u0 : Int}
    (s0 : u0 = 0 ∨ u0 = 1)
    (z1 : Q (.inl (some (aI u0))) (G, c)) :
    T (d + 1) 85 214 [none, none, none, none, none] [aI u0] (G, c) Q := by
  exact e_zret (show decode (mC 85) 214 = .ok (.ireturn, 1) by decide +kernel) rfl s0 z1
/-- SoulOffice$Sentence.readOne(I)Z, from 235 -/
theorem b85_235 (hG : Shp G) {u0 : Int}
    (s0 : u0 = 0 ∨ u0 = 1)
    (z1 : Q (.inl (some (aI u0))) (G, c)) :
    T (d + 1) 85 235 [none, none, none, none, none] [aI u0] (G, c) Q := by
  exact e_zret (show decode (mC 85) 235 = .ok (.ireturn, 1) by decide +kernel) rfl s0 z1
/-- SoulOffice$Sentence.readOne(I)Z, from 256 -/
theorem b85_256 (hG : Shp G) {u0 : Int}
    (s0 : u0 = 0 ∨ u0 = 1)
    (z1 : Q (.inl (some (aI u0))) (G, c)) :
    T (d + 1) 85 256 [none, none, none, none, none] [aI u0] (G, c) Q := by
  exact e_zret (show decode (mC 85) 256 = .ok (.ireturn, 1) by decide +kernel) rfl s0 z1
/-- SoulOffice$Sentence.readOne(I)Z, from 263 -/
theorem b85_263 (hG : Shp G) {u0 : Int}
    (s0 : u0 = 0 ∨ u0 = 1)
    (z1 : Q (.inl (some (aI u0))) (G, c)) :
    T (d + 1) 85 263 [none, none, none, none, none] [aI u0] (G, c) Q := by
  exact e_zret (show decode (mC 85) 263 = .ok (.ireturn, 1) by decide +kernel) rfl s0 z1
/-- SoulOffice$Sentence.readNamed(I[JI)Z, from 0 -/
theorem b86_0 (hG : Shp G) {v1 v3 : Int} {a : Nat} (h_a : Sent a) {r2 n_r2 : Nat} (o_r2 : okR G r2 21) (l_r2 : lnR G r2 n_r2) (b_r2 : n_r2 ≤ 3000) (hQ : ∀ o o' h', q_eqo o o' → Q o h' → Q o' h')
    (m0 : TM d 106 [aR 2, aR r2, aI v3] (G, c) (fun r h' => T (d + 1) 86 9 [some (aR a), some (aI v1), none, none, none] (r.toList ++ []) h' Q)) :
    T (d + 1) 86 0 [some (aR a), some (aI v1), some (aR r2), some (aI v3), none] [] (G, c) Q := by
  refine e_L (L' := [some (aR a), some (aI v1), some (aR r2), some (aI v3), none]) (st' := [aR a]) (show decode (mC 86) 0 = .ok (.aload_n 0, 1) by decide +kernel) rfl (by show (if a = 0 then none else some (_, _)) = _; rw [if_neg (show ¬ a = 0 from se_ne h_a 0)]) ?_
  refine e_getR (w := 2) (show decode (mC 86) 1 = .ok (.getfield 24, 3) by decide +kernel) (show pl 9 24 = some (0, 9, 0, 0) by decide +kernel) (by decide) (se_ok hG h_a 0 (by decide)) (se_r0 hG h_a) ?_
  refine e_L (L' := [some (aR a), some (aI v1), some (aR r2), some (aI v3), none]) (st' := [aR r2, aR 2]) (show decode (mC 86) 4 = .ok (.aload_n 2, 1) by decide +kernel) rfl (by show (if r2 = 0 then none else some (_, _)) = _; rw [if_neg (okR_ne o_r2)]) ?_
  refine e_L (L' := [some (aR a), some (aI v1), some (aR r2), some (aI v3), none]) (st' := [aI v3, aR r2, aR 2]) (show decode (mC 86) 5 = .ok (.iload_n 3, 1) by decide +kernel) rfl rfl ?_
  exact e_V (as := [aR 2, aR r2, aI v3]) (rest := []) (show decode (mC 86) 6 = .ok (.invokevirtual 122, 3) by decide +kernel) (by decide +kernel) (show (decide ((3 : Nat) = mA 106) && decide (106 < q_law)) = true by decide +kernel) rfl (show (0 : Nat) ≤ 8 by decide) (show (3 : Nat) ≤ mL 106 by decide +kernel) rfl (sh_ok hG (by decide +kernel)) (tm_le hQ (leS (leS (leN (leN (leS leE))))) m0)
/-- SoulOffice$Sentence.readNamed(I[JI)Z, from 9 -/
theorem b86_9 (hG : Shp G) {v1 u0 : Int} {a : Nat} (h_a : Sent a)
    (s0 : -2147483648 ≤ u0 ∧ u0 < 2147483648)
    (m1 : (¬ u0 = (-1)) → TM d 98 [aR 2] (G, c) (fun r h' => T (d + 1) 86 26 [some (aR a), some (aI v1), none, none, some (aI u0)] (r.toList ++ []) h' Q))
    (z2 : (u0 = (-1)) → Q (.inl (some (aI 0))) (G, c)) :
    T (d + 1) 86 9 [some (aR a), some (aI v1), none, none, none] [aI u0] (G, c) Q := by
  refine e_L (L' := [some (aR a), some (aI v1), none, none, some (aI u0)]) (st' := []) (show decode (mC 86) 9 = .ok (.istore 4, 2) by decide +kernel) rfl rfl ?_
  refine e_L (L' := [some (aR a), some (aI v1), none, none, some (aI u0)]) (st' := [aI u0]) (show decode (mC 86) 11 = .ok (.iload 4, 2) by decide +kernel) rfl rfl ?_
  refine e_P (st' := [aI (-1), aI u0]) (show decode (mC 86) 13 = .ok (.iconst (-1), 1) by decide +kernel) rfl rfl rfl ?_
  refine e_ne2 (t := 19) (show decode (mC 86) 14 = .ok (.if_icmp .ne 5, 3) by decide +kernel) (by decide) s0 (by decide) (fun p1 => ?_) (fun p1 => ?_)
  · refine e_L (L' := [some (aR a), some (aI v1), none, none, some (aI u0)]) (st' := [aR a]) (show decode (mC 86) 19 = .ok (.aload_n 0, 1) by decide +kernel) rfl (by show (if a = 0 then none else some (_, _)) = _; rw [if_neg (show ¬ a = 0 from se_ne h_a 0)]) ?_
    refine e_getR (w := 2) (show decode (mC 86) 20 = .ok (.getfield 24, 3) by decide +kernel) (show pl 9 24 = some (0, 9, 0, 0) by decide +kernel) (by decide) (se_ok hG h_a 0 (by decide)) (se_r0 hG h_a) ?_
    exact e_V (as := [aR 2]) (rest := []) (show decode (mC 86) 23 = .ok (.invokevirtual 72, 3) by decide +kernel) (by decide +kernel) (show (decide ((1 : Nat) = mA 98) && decide (98 < q_law)) = true by decide +kernel) rfl (show (0 : Nat) ≤ 8 by decide) (show (1 : Nat) ≤ mL 98 by decide +kernel) rfl (sh_ok hG (by decide +kernel)) (m1 p1)
  · refine e_P (st' := [aI 0]) (show decode (mC 86) 17 = .ok (.iconst 0, 1) by decide +kernel) rfl rfl rfl ?_
    exact e_zret (show decode (mC 86) 18 = .ok (.ireturn, 1) by decide +kernel) rfl (by decide) (z2 p1)
/-- SoulOffice$Sentence.readNamed(I[JI)Z, from 26 -/
theorem b86_26 (hG : Shp G) {v1 v4 : Int} {a : Nat} (h_a : Sent a) (hQ : ∀ o o' h', q_eqo o o' → Q o h' → Q o' h')
    (m0 : TM d 88 [aR a, aI v1, aI 0, aI v4] (G, c) (fun r h' => T (d + 1) 86 34 [none, none, none, none, none] (r.toList ++ []) h' Q)) :
    T (d + 1) 86 26 [some (aR a), some (aI v1), none, none, some (aI v4)] [] (G, c) Q := by
  refine e_L (L' := [some (aR a), some (aI v1), none, none, some (aI v4)]) (st' := [aR a]) (show decode (mC 86) 26 = .ok (.aload_n 0, 1) by decide +kernel) rfl (by show (if a = 0 then none else some (_, _)) = _; rw [if_neg (show ¬ a = 0 from se_ne h_a 0)]) ?_
  refine e_L (L' := [some (aR a), some (aI v1), none, none, some (aI v4)]) (st' := [aI v1, aR a]) (show decode (mC 86) 27 = .ok (.iload_n 1, 1) by decide +kernel) rfl rfl ?_
  refine e_P (st' := [aI 0, aI v1, aR a]) (show decode (mC 86) 28 = .ok (.iconst 0, 1) by decide +kernel) rfl rfl rfl ?_
  refine e_L (L' := [some (aR a), some (aI v1), none, none, some (aI v4)]) (st' := [aI v4, aI 0, aI v1, aR a]) (show decode (mC 86) 29 = .ok (.iload 4, 2) by decide +kernel) rfl rfl ?_
  exact e_V (as := [aR a, aI v1, aI 0, aI v4]) (rest := []) (show decode (mC 86) 31 = .ok (.invokevirtual 75, 3) by decide +kernel) (by decide +kernel) (show (decide ((4 : Nat) = mA 88) && decide (88 < q_law)) = true by decide +kernel) rfl (show (0 : Nat) ≤ 8 by decide) (show (4 : Nat) ≤ mL 88 by decide +kernel) rfl (se_ok hG h_a 0 (by decide)) (tm_le hQ (leN (leN (leS (leS (leN leE))))) m0)
/-- SoulOffice$Sentence.readNamed(I[JI)Z, from 34 -/
theorem b86_34 (hG : Shp G) {u0 : Int}
    (s0 : u0 = 0 ∨ u0 = 1)
    (z1 : Q (.inl (some (aI u0))) (G, c)) :
    T (d + 1) 86 34 [none, none, none, none, none] [aI u0] (G, c) Q := by
  exact e_zret (show decode (mC 86) 34 = .ok (.ireturn, 1) by decide +kernel) rfl s0 z1
/-- SoulOffice$Sentence.readCompared(I)Z, from 0 -/
theorem b87_0 (hG : Shp G) {v1 : Int} {a : Nat} (h_a : Sent a)
    (m0 : TM d 102 [aR 2, aI 60] (G, c) (fun r h' => T (d + 1) 87 9 [some (aR a), some (aI v1), none, none] (r.toList ++ []) h' Q)) :
    T (d + 1) 87 0 [some (aR a), some (aI v1), none, none] [] (G, c) Q := by
  refine e_L (L' := [some (aR a), some (aI v1), none, none]) (st' := [aR a]) (show decode (mC 87) 0 = .ok (.aload_n 0, 1) by decide +kernel) rfl (by show (if a = 0 then none else some (_, _)) = _; rw [if_neg (show ¬ a = 0 from se_ne h_a 0)]) ?_
  refine e_getR (w := 2) (show decode (mC 87) 1 = .ok (.getfield 24, 3) by decide +kernel) (show pl 9 24 = some (0, 9, 0, 0) by decide +kernel) (by decide) (se_ok hG h_a 0 (by decide)) (se_r0 hG h_a) ?_
  refine e_P (st' := [aI 60, aR 2]) (show decode (mC 87) 4 = .ok (.bipush 60, 2) by decide +kernel) rfl rfl rfl ?_
  exact e_V (as := [aR 2, aI 60]) (rest := []) (show decode (mC 87) 6 = .ok (.invokevirtual 82, 3) by decide +kernel) (by decide +kernel) (show (decide ((2 : Nat) = mA 102) && decide (102 < q_law)) = true by decide +kernel) rfl (show (0 : Nat) ≤ 8 by decide) (show (2 : Nat) ≤ mL 102 by decide +kernel) rfl (sh_ok hG (by decide +kernel)) m0
end QB8
