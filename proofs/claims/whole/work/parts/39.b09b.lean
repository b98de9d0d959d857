section QB9
variable {d : Nat} {G : GG} {c : CC} {Q : OO → HH → Prop}
/-- SoulOffice$Sentence.readCompared(I)Z, from 9 -/
theorem b87_9 (hG : Shp G) {v1 u0 x1 : Int} {a : Nat} (h_a : Sent a)
    (s0 : -2147483648 ≤ u0 ∧ u0 < 2147483648)
    (ex1 : c 2 12 = x1)
    (m2 : (¬ u0 = 0) → TM d 98 [aR 2] (G, c) (fun r h' => T (d + 1) 87 60 [some (aR a), some (aI v1), some (aI x1), none] (r.toList ++ []) h' Q))
    (m3 : (u0 = 0) → TM d 102 [aR 2, aI 61] (G, c) (fun r h' => T (d + 1) 87 21 [some (aR a), some (aI v1), none, none] (r.toList ++ []) h' Q)) :
    T (d + 1) 87 9 [some (aR a), some (aI v1), none, none] [aI u0] (G, c) Q := by
  refine e_ne1 (t := 45) (show decode (mC 87) 9 = .ok (.ifCond .ne 36, 3) by decide +kernel) (by decide) s0 (fun p1 => ?_) (fun p1 => ?_)
  · refine e_L (L' := [some (aR a), some (aI v1), none, none]) (st' := [aR a]) (show decode (mC 87) 45 = .ok (.aload_n 0, 1) by decide +kernel) rfl (by show (if a = 0 then none else some (_, _)) = _; rw [if_neg (show ¬ a = 0 from se_ne h_a 0)]) ?_
    refine e_getR (w := 2) (show decode (mC 87) 46 = .ok (.getfield 24, 3) by decide +kernel) (show pl 9 24 = some (0, 9, 0, 0) by decide +kernel) (by decide) (se_ok hG h_a 0 (by decide)) (se_r0 hG h_a) ?_
    refine e_getIx (show decode (mC 87) 49 = .ok (.getfield 89, 3) by decide +kernel) (show pl 9 89 = some (0, 10, 12, 0) by decide +kernel) (by decide) (sh_ok hG (by decide +kernel)) ex1 ?_
    refine e_L (L' := [some (aR a), some (aI v1), some (aI x1), none]) (st' := []) (show decode (mC 87) 52 = .ok (.istore_n 2, 1) by decide +kernel) rfl rfl ?_
    refine e_L (L' := [some (aR a), some (aI v1), some (aI x1), none]) (st' := [aR a]) (show decode (mC 87) 53 = .ok (.aload_n 0, 1) by decide +kernel) rfl (by show (if a = 0 then none else some (_, _)) = _; rw [if_neg (show ¬ a = 0 from se_ne h_a 0)]) ?_
    refine e_getR (w := 2) (show decode (mC 87) 54 = .ok (.getfield 24, 3) by decide +kernel) (show pl 9 24 = some (0, 9, 0, 0) by decide +kernel) (by decide) (se_ok hG h_a 0 (by decide)) (se_r0 hG h_a) ?_
    exact e_V (as := [aR 2]) (rest := []) (show decode (mC 87) 57 = .ok (.invokevirtual 72, 3) by decide +kernel) (by decide +kernel) (show (decide ((1 : Nat) = mA 98) && decide (98 < q_law)) = true by decide +kernel) rfl (show (0 : Nat) ≤ 8 by decide) (show (1 : Nat) ≤ mL 98 by decide +kernel) rfl (sh_ok hG (by decide +kernel)) (m2 p1)
  · refine e_L (L' := [some (aR a), some (aI v1), none, none]) (st' := [aR a]) (show decode (mC 87) 12 = .ok (.aload_n 0, 1) by decide +kernel) rfl (by show (if a = 0 then none else some (_, _)) = _; rw [if_neg (show ¬ a = 0 from se_ne h_a 0)]) ?_
    refine e_getR (w := 2) (show decode (mC 87) 13 = .ok (.getfield 24, 3) by decide +kernel) (show pl 9 24 = some (0, 9, 0, 0) by decide +kernel) (by decide) (se_ok hG h_a 0 (by decide)) (se_r0 hG h_a) ?_
    refine e_P (st' := [aI 61, aR 2]) (show decode (mC 87) 16 = .ok (.bipush 61, 2) by decide +kernel) rfl rfl rfl ?_
    exact e_V (as := [aR 2, aI 61]) (rest := []) (show decode (mC 87) 18 = .ok (.invokevirtual 82, 3) by decide +kernel) (by decide +kernel) (show (decide ((2 : Nat) = mA 102) && decide (102 < q_law)) = true by decide +kernel) rfl (show (0 : Nat) ≤ 8 by decide) (show (2 : Nat) ≤ mL 102 by decide +kernel) rfl (sh_ok hG (by decide +kernel)) (m3 p1)
/-- SoulOffice$Sentence.readCompared(I)Z, from 21 -/
theorem b87_21 (hG : Shp G) {v1 u0 x1 : Int} {a : Nat} (h_a : Sent a)
    (s0 : -2147483648 ≤ u0 ∧ u0 < 2147483648)
    (ex1 : c 2 12 = x1)
    (m2 : (¬ u0 = 0) → TM d 98 [aR 2] (G, c) (fun r h' => T (d + 1) 87 60 [some (aR a), some (aI v1), some (aI x1), none] (r.toList ++ []) h' Q))
    (m3 : (u0 = 0) → TM d 102 [aR 2, aI 62] (G, c) (fun r h' => T (d + 1) 87 33 [some (aR a), some (aI v1), none, none] (r.toList ++ []) h' Q)) :
    T (d + 1) 87 21 [some (aR a), some (aI v1), none, none] [aI u0] (G, c) Q := by
  refine e_ne1 (t := 45) (show decode (mC 87) 21 = .ok (.ifCond .ne 24, 3) by decide +kernel) (by decide) s0 (fun p1 => ?_) (fun p1 => ?_)
  · refine e_L (L' := [some (aR a), some (aI v1), none, none]) (st' := [aR a]) (show decode (mC 87) 45 = .ok (.aload_n 0, 1) by decide +kernel) rfl (by show (if a = 0 then none else some (_, _)) = _; rw [if_neg (show ¬ a = 0 from se_ne h_a 0)]) ?_
    refine e_getR (w := 2) (show decode (mC 87) 46 = .ok (.getfield 24, 3) by decide +kernel) (show pl 9 24 = some (0, 9, 0, 0) by decide +kernel) (by decide) (se_ok hG h_a 0 (by decide)) (se_r0 hG h_a) ?_
    refine e_getIx (show decode (mC 87) 49 = .ok (.getfield 89, 3) by decide +kernel) (show pl 9 89 = some (0, 10, 12, 0) by decide +kernel) (by decide) (sh_ok hG (by decide +kernel)) ex1 ?_
    refine e_L (L' := [some (aR a), some (aI v1), some (aI x1), none]) (st' := []) (show decode (mC 87) 52 = .ok (.istore_n 2, 1) by decide +kernel) rfl rfl ?_
    refine e_L (L' := [some (aR a), some (aI v1), some (aI x1), none]) (st' := [aR a]) (show decode (mC 87) 53 = .ok (.aload_n 0, 1) by decide +kernel) rfl (by show (if a = 0 then none else some (_, _)) = _; rw [if_neg (show ¬ a = 0 from se_ne h_a 0)]) ?_
    refine e_getR (w := 2) (show decode (mC 87) 54 = .ok (.getfield 24, 3) by decide +kernel) (show pl 9 24 = some (0, 9, 0, 0) by decide +kernel) (by decide) (se_ok hG h_a 0 (by decide)) (se_r0 hG h_a) ?_
    exact e_V (as := [aR 2]) (rest := []) (show decode (mC 87) 57 = .ok (.invokevirtual 72, 3) by decide +kernel) (by decide +kernel) (show (decide ((1 : Nat) = mA 98) && decide (98 < q_law)) = true by decide +kernel) rfl (show (0 : Nat) ≤ 8 by decide) (show (1 : Nat) ≤ mL 98 by decide +kernel) rfl (sh_ok hG (by decide +kernel)) (m2 p1)
  · refine e_L (L' := [some (aR a), some (aI v1), none, none]) (st' := [aR a]) (show decode (mC 87) 24 = .ok (.aload_n 0, 1) by decide +kernel) rfl (by show (if a = 0 then none else some (_, _)) = _; rw [if_neg (show ¬ a = 0 from se_ne h_a 0)]) ?_
    refine e_getR (w := 2) (show decode (mC 87) 25 = .ok (.getfield 24, 3) by decide +kernel) (show pl 9 24 = some (0, 9, 0, 0) by decide +kernel) (by decide) (se_ok hG h_a 0 (by decide)) (se_r0 hG h_a) ?_
    refine e_P (st' := [aI 62, aR 2]) (show decode (mC 87) 28 = .ok (.bipush 62, 2) by decide +kernel) rfl rfl rfl ?_
    exact e_V (as := [aR 2, aI 62]) (rest := []) (show decode (mC 87) 30 = .ok (.invokevirtual 82, 3) by decide +kernel) (by decide +kernel) (show (decide ((2 : Nat) = mA 102) && decide (102 < q_law)) = true by decide +kernel) rfl (show (0 : Nat) ≤ 8 by decide) (show (2 : Nat) ≤ mL 102 by decide +kernel) rfl (sh_ok hG (by decide +kernel)) (m3 p1)
/-- SoulOffice$Sentence.readCompared(I)Z, from 33 -/
theorem b87_33 (hG : Shp G) {v1 u0 x1 : Int} {a : Nat} (h_a : Sent a) (hQ : ∀ o o' h', q_eqo o o' → Q o h' → Q o' h')
    (s0 : -2147483648 ≤ u0 ∧ u0 < 2147483648)
    (ex1 : c 2 12 = x1)
    (m2 : (¬ u0 = 0) → TM d 98 [aR 2] (G, c) (fun r h' => T (d + 1) 87 60 [some (aR a), some (aI v1), some (aI x1), none] (r.toList ++ []) h' Q))
    (m3 : (u0 = 0) → TM d 99 [aR 2, aI 1] (G, c) (fun r h' => T (d + 1) 87 44 [none, none, none, none] (r.toList ++ []) h' Q)) :
    T (d + 1) 87 33 [some (aR a), some (aI v1), none, none] [aI u0] (G, c) Q := by
  refine e_ne1 (t := 45) (show decode (mC 87) 33 = .ok (.ifCond .ne 12, 3) by decide +kernel) (by decide) s0 (fun p1 => ?_) (fun p1 => ?_)
  · refine e_L (L' := [some (aR a), some (aI v1), none, none]) (st' := [aR a]) (show decode (mC 87) 45 = .ok (.aload_n 0, 1) by decide +kernel) rfl (by show (if a = 0 then none else some (_, _)) = _; rw [if_neg (show ¬ a = 0 from se_ne h_a 0)]) ?_
    refine e_getR (w := 2) (show decode (mC 87) 46 = .ok (.getfield 24, 3) by decide +kernel) (show pl 9 24 = some (0, 9, 0, 0) by decide +kernel) (by decide) (se_ok hG h_a 0 (by decide)) (se_r0 hG h_a) ?_
    refine e_getIx (show decode (mC 87) 49 = .ok (.getfield 89, 3) by decide +kernel) (show pl 9 89 = some (0, 10, 12, 0) by decide +kernel) (by decide) (sh_ok hG (by decide +kernel)) ex1 ?_
    refine e_L (L' := [some (aR a), some (aI v1), some (aI x1), none]) (st' := []) (show decode (mC 87) 52 = .ok (.istore_n 2, 1) by decide +kernel) rfl rfl ?_
    refine e_L (L' := [some (aR a), some (aI v1), some (aI x1), none]) (st' := [aR a]) (show decode (mC 87) 53 = .ok (.aload_n 0, 1) by decide +kernel) rfl (by show (if a = 0 then none else some (_, _)) = _; rw [if_neg (show ¬ a = 0 from se_ne h_a 0)]) ?_
    refine e_getR (w := 2) (show decode (mC 87) 54 = .ok (.getfield 24, 3) by decide +kernel) (show pl 9 24 = some (0, 9, 0, 0) by decide +kernel) (by decide) (se_ok hG h_a 0 (by decide)) (se_r0 hG h_a) ?_
    exact e_V (as := [aR 2]) (rest := []) (show decode (mC 87) 57 = .ok (.invokevirtual 72, 3) by decide +kernel) (by decide +kernel) (show (decide ((1 : Nat) = mA 98) && decide (98 < q_law)) = true by decide +kernel) rfl (show (0 : Nat) ≤ 8 by decide) (show (1 : Nat) ≤ mL 98 by decide +kernel) rfl (sh_ok hG (by decide +kernel)) (m2 p1)
  · refine e_L (L' := [some (aR a), some (aI v1), none, none]) (st' := [aR a]) (show decode (mC 87) 36 = .ok (.aload_n 0, 1) by decide +kernel) rfl (by show (if a = 0 then none else some (_, _)) = _; rw [if_neg (show ¬ a = 0 from se_ne h_a 0)]) ?_
    refine e_getR (w := 2) (show decode (mC 87) 37 = .ok (.getfield 24, 3) by decide +kernel) (show pl 9 24 = some (0, 9, 0, 0) by decide +kernel) (by decide) (se_ok hG h_a 0 (by decide)) (se_r0 hG h_a) ?_
    refine e_P (st' := [aI 1, aR 2]) (show decode (mC 87) 40 = .ok (.iconst 1, 1) by decide +kernel) rfl rfl rfl ?_
    exact e_V (as := [aR 2, aI 1]) (rest := []) (show decode (mC 87) 41 = .ok (.invokevirtual 91, 3) by decide +kernel) (by decide +kernel) (show (decide ((2 : Nat) = mA 99) && decide (99 < q_law)) = true by decide +kernel) rfl (show (0 : Nat) ≤ 8 by decide) (show (2 : Nat) ≤ mL 99 by decide +kernel) rfl (sh_ok hG (by decide +kernel)) (tm_le hQ (leN (leN (leS (leS leE)))) (m3 p1))
/-- SoulOffice$Sentence.readCompared(I)Z, from 44 -/
theorem b87_44 (hG : Shp G) {u0 : Int}
    (s0 : u0 = 0 ∨ u0 = 1)
    (z1 : Q (.inl (some (aI u0))) (G, c)) :
    T (d + 1) 87 44 [none, none, none, none] [aI u0] (G, c) Q := by
  exact e_zret (show decode (mC 87) 44 = .ok (.ireturn, 1) by decide +kernel) rfl s0 z1
/-- SoulOffice$Sentence.readCompared(I)Z, from 60 -/
theorem b87_60 (hG : Shp G) {v1 v2 : Int} {a : Nat} (h_a : Sent a)
    (m0 : TM d 105 [aR 2, aI 0, aI 999] (G, c) (fun r h' => T (d + 1) 87 71 [some (aR a), some (aI v1), some (aI v2), none] (r.toList ++ []) h' Q)) :
    T (d + 1) 87 60 [some (aR a), some (aI v1), some (aI v2), none] [] (G, c) Q := by
  refine e_L (L' := [some (aR a), some (aI v1), some (aI v2), none]) (st' := [aR a]) (show decode (mC 87) 60 = .ok (.aload_n 0, 1) by decide +kernel) rfl (by show (if a = 0 then none else some (_, _)) = _; rw [if_neg (show ¬ a = 0 from se_ne h_a 0)]) ?_
  refine e_getR (w := 2) (show decode (mC 87) 61 = .ok (.getfield 24, 3) by decide +kernel) (show pl 9 24 = some (0, 9, 0, 0) by decide +kernel) (by decide) (se_ok hG h_a 0 (by decide)) (se_r0 hG h_a) ?_
  refine e_P (st' := [aI 0, aR 2]) (show decode (mC 87) 64 = .ok (.iconst 0, 1) by decide +kernel) rfl rfl rfl ?_
  refine e_P (st' := [aI 999, aI 0, aR 2]) (show decode (mC 87) 65 = .ok (.sipush 999, 3) by decide +kernel) rfl rfl rfl ?_
  exact e_V (as := [aR 2, aI 0, aI 999]) (rest := []) (show decode (mC 87) 68 = .ok (.invokevirtual 126, 3) by decide +kernel) (by decide +kernel) (show (decide ((3 : Nat) = mA 105) && decide (105 < q_law)) = true by decide +kernel) rfl (show (0 : Nat) ≤ 8 by decide) (show (3 : Nat) ≤ mL 105 by decide +kernel) rfl (sh_ok hG (by decide +kernel)) m0
/-- SoulOffice$Sentence.readCompared(I)Z, from 71 -/
theorem b87_71 (hG : Shp G) {v1 v2 u0 : Int} {a : Nat} (h_a : Sent a) (hQ : ∀ o o' h', q_eqo o o' → Q o h' → Q o' h')
    (s0 : -2147483648 ≤ u0 ∧ u0 < 2147483648)
    (z1 : (u0 = (-1)) → Q (.inl (some (aI 0))) (G, c))
    (m2 : (¬ u0 = (-1)) → TM d 88 [aR a, aI v1, aI v2, aI u0] (G, c) (fun r h' => T (d + 1) 87 84 [none, none, none, none] (r.toList ++ []) h' Q)) :
    T (d + 1) 87 71 [some (aR a), some (aI v1), some (aI v2), none] [aI u0] (G, c) Q := by
  refine e_L (L' := [some (aR a), some (aI v1), some (aI v2), some (aI u0)]) (st' := []) (show decode (mC 87) 71 = .ok (.istore_n 3, 1) by decide +kernel) rfl rfl ?_
  refine e_L (L' := [some (aR a), some (aI v1), some (aI v2), some (aI u0)]) (st' := [aI u0]) (show decode (mC 87) 72 = .ok (.iload_n 3, 1) by decide +kernel) rfl rfl ?_
  refine e_P (st' := [aI (-1), aI u0]) (show decode (mC 87) 73 = .ok (.iconst (-1), 1) by decide +kernel) rfl rfl rfl ?_
  refine e_eq2 (t := 91) (show decode (mC 87) 74 = .ok (.if_icmp .eq 17, 3) by decide +kernel) (by decide) s0 (by decide) (fun p1 => ?_) (fun p1 => ?_)
  · refine e_P (st' := [aI 0]) (show decode (mC 87) 91 = .ok (.iconst 0, 1) by decide +kernel) rfl rfl rfl ?_
    exact e_zret (show decode (mC 87) 92 = .ok (.ireturn, 1) by decide +kernel) rfl (by decide) (z1 p1)
  · refine e_L (L' := [some (aR a), some (aI v1), some (aI v2), some (aI u0)]) (st' := [aR a]) (show decode (mC 87) 77 = .ok (.aload_n 0, 1) by decide +kernel) rfl (by show (if a = 0 then none else some (_, _)) = _; rw [if_neg (show ¬ a = 0 from se_ne h_a 0)]) ?_
    refine e_L (L' := [some (aR a), some (aI v1), some (aI v2), some (aI u0)]) (st' := [aI v1, aR a]) (show decode (mC 87) 78 = .ok (.iload_n 1, 1) by decide +kernel) rfl rfl ?_
    refine e_L (L' := [some (aR a), some (aI v1), some (aI v2), some (aI u0)]) (st' := [aI v2, aI v1, aR a]) (show decode (mC 87) 79 = .ok (.iload_n 2, 1) by decide +kernel) rfl rfl ?_
    refine e_L (L' := [some (aR a), some (aI v1), some (aI v2), some (aI u0)]) (st' := [aI u0, aI v2, aI v1, aR a]) (show decode (mC 87) 80 = .ok (.iload_n 3, 1) by decide +kernel) rfl rfl ?_
    exact e_V (as := [aR a, aI v1, aI v2, aI u0]) (rest := []) (show decode (mC 87) 81 = .ok (.invokevirtual 75, 3) by decide +kernel) (by decide +kernel) (show (decide ((4 : Nat) = mA 88) && decide (88 < q_law)) = true by decide +kernel) rfl (show (0 : Nat) ≤ 8 by decide) (show (4 : Nat) ≤ mL 88 by decide +kernel) rfl (se_ok hG h_a 0 (by decide)) (tm_le hQ (leN (leN (leN (leN leE)))) (m2 p1))
/-- SoulOffice$Sentence.readCompared(I)Z, from 84 -/
theorem b87_84 (hG : Shp G) {u0 : Int}
    (s0 : -2147483648 ≤ u0 ∧ u0 < 2147483648)
    (z1 : (u0 = 0) → Q (.inl (some (aI 0))) (G, c))
    (z2 : (¬ u0 = 0) → Q (.inl (some (aI 1))) (G, c)) :
    T (d + 1) 87 84 [none, none, none, none] [aI u0] (G, c) Q := by
  refine e_eq1 (t := 91) (show decode (mC 87) 84 = .ok (.ifCond .eq 7, 3) by decide +kernel) (by decide) s0 (fun p1 => ?_) (fun p1 => ?_)
  · refine e_P (st' := [aI 0]) (show decode (mC 87) 91 = .ok (.iconst 0, 1) by decide +kernel) rfl rfl rfl ?_
    exact e_zret (show decode (mC 87) 92 = .ok (.ireturn, 1) by decide +kernel) rfl (by decide) (z1 p1)
  · refine e_P (st' := [aI 1]) (show decode (mC 87) 87 = .ok (.iconst 1, 1) by decide +kernel) rfl rfl rfl ?_
    refine e_go (t := 92) (show decode (mC 87) 88 = .ok (.goto 4, 3) by decide +kernel) (by decide) ?_
    exact e_zret (show decode (mC 87) 92 = .ok (.ireturn, 1) by decide +kernel) rfl (by decide) (z2 p1)
/-- SoulOffice$Sentence.addStep(III)Z, from 0 -/
theorem b88_0 (hG : Shp G) {v1 v2 v3 x1 x2 x3 x4 x5 : Int} {a : Nat} (h_a : Sent a)
    (ex1 : c a 6 = x1)
    (s1 : -2147483648 ≤ x1 ∧ x1 < 2147483648)
    (z2 : (40 ≤ x1) → Q (.inl (some (aI 1))) (G, c))
    (ex2 : c a 6 = x2)
    (s4 : (x1 < 40) → 0 ≤ x2)
    (s5 : (x1 < 40) → x2 < 40)
    (ex3 : (q_up c (a + 1) x2 v1) a 6 = x3)
    (s7 : (x1 < 40) → 0 ≤ x3)
    (s8 : (x1 < 40) → x3 < 40)
    (ex4 : (q_up (q_up c (a + 1) x2 v1) (a + 2) x3 v2) a 6 = x4)
    (s10 : (x1 < 40) → 0 ≤ x4)
    (s11 : (x1 < 40) → x4 < 40)
    (ex5 : (q_up (q_up (q_up c (a + 1) x2 v1) (a + 2) x3 v2) (a + 3) x4 v3) a 6 = x5)
    (z13 : (x1 < 40) → Q (.inl (some (aI 1))) (G, (q_up (q_up (q_up (q_up c (a + 1) x2 v1) (a + 2) x3 v2) (a + 3) x4 v3) a 6 (x5 + 1)))) :
    T d 88 0 [some (aR a), some (aI v1), some (aI v2), some (aI v3)] [] (G, c) Q := by
  refine e_L (L' := [some (aR a), some (aI v1), some (aI v2), some (aI v3)]) (st' := [aR a]) (show decode (mC 88) 0 = .ok (.aload_n 0, 1) by decide +kernel) rfl (by show (if a = 0 then none else some (_, _)) = _; rw [if_neg (show ¬ a = 0 from se_ne h_a 0)]) ?_
  refine e_getIx (show decode (mC 88) 1 = .ok (.getfield 40, 3) by decide +kernel) (show pl 9 40 = some (0, 9, 6, 0) by decide +kernel) (by decide) (se_ok hG h_a 0 (by decide)) ex1 ?_
  refine e_P (st' := [aI 40, aI x1]) (show decode (mC 88) 4 = .ok (.bipush 40, 2) by decide +kernel) rfl rfl rfl ?_
  refine e_ge2 (t := 49) (show decode (mC 88) 6 = .ok (.if_icmp .ge 43, 3) by decide +kernel) (by decide) s1 (by decide) (fun p1 => ?_) (fun p1 => ?_)
  · refine e_P (st' := [aI 1]) (show decode (mC 88) 49 = .ok (.iconst 1, 1) by decide +kernel) rfl rfl rfl ?_
    exact e_zret (show decode (mC 88) 50 = .ok (.ireturn, 1) by decide +kernel) rfl (by decide) (z2 p1)
  · refine e_L (L' := [some (aR a), some (aI v1), some (aI v2), some (aI v3)]) (st' := [aR a]) (show decode (mC 88) 9 = .ok (.aload_n 0, 1) by decide +kernel) rfl (by show (if a = 0 then none else some (_, _)) = _; rw [if_neg (show ¬ a = 0 from se_ne h_a 0)]) ?_
    refine e_getR (w := (a + 1)) (show decode (mC 88) 10 = .ok (.getfield 11, 3) by decide +kernel) (show pl 9 11 = some (0, 9, 2, 0) by decide +kernel) (by decide) (se_ok hG h_a 0 (by decide)) (se_rf hG h_a 0 (by decide)) ?_
    refine e_L (L' := [some (aR a), some (aI v1), some (aI v2), some (aI v3)]) (st' := [aR a, aR (a + 1)]) (show decode (mC 88) 13 = .ok (.aload_n 0, 1) by decide +kernel) rfl (by show (if a = 0 then none else some (_, _)) = _; rw [if_neg (show ¬ a = 0 from se_ne h_a 0)]) ?_
    refine e_getIx (show decode (mC 88) 14 = .ok (.getfield 40, 3) by decide +kernel) (show pl 9 40 = some (0, 9, 6, 0) by decide +kernel) (by decide) (se_ok hG h_a 0 (by decide)) ex2 ?_
    refine e_L (L' := [some (aR a), some (aI v1), some (aI v2), some (aI v3)]) (st' := [aI v1, aI x2, aR (a + 1)]) (show decode (mC 88) 17 = .ok (.iload_n 1, 1) by decide +kernel) rfl rfl ?_
    refine e_iast (n := 40) (show decode (mC 88) 18 = .ok (.iastore, 1) by decide +kernel) (se_ok hG h_a 1 (by decide)) (se_ln hG h_a 1 (by decide)) (by decide) (s4 p1) (s5 p1) ?_
    refine e_L (L' := [some (aR a), some (aI v1), some (aI v2), some (aI v3)]) (st' := [aR a]) (show decode (mC 88) 19 = .ok (.aload_n 0, 1) by decide +kernel) rfl (by show (if a = 0 then none else some (_, _)) = _; rw [if_neg (show ¬ a = 0 from se_ne h_a 0)]) ?_
    refine e_getR (w := (a + 2)) (show decode (mC 88) 20 = .ok (.getfield 15, 3) by decide +kernel) (show pl 9 15 = some (0, 9, 3, 0) by decide +kernel) (by decide) (se_ok hG h_a 0 (by decide)) (se_rf hG h_a 1 (by decide)) ?_
    refine e_L (L' := [some (aR a), some (aI v1), some (aI v2), some (aI v3)]) (st' := [aR a, aR (a + 2)]) (show decode (mC 88) 23 = .ok (.aload_n 0, 1) by decide +kernel) rfl (by show (if a = 0 then none else some (_, _)) = _; rw [if_neg (show ¬ a = 0 from se_ne h_a 0)]) ?_
    refine e_getIx (show decode (mC 88) 24 = .ok (.getfield 40, 3) by decide +kernel) (show pl 9 40 = some (0, 9, 6, 0) by decide +kernel) (by decide) (se_ok hG h_a 0 (by decide)) ex3 ?_
    refine e_L (L' := [some (aR a), some (aI v1), some (aI v2), some (aI v3)]) (st' := [aI v2, aI x3, aR (a + 2)]) (show decode (mC 88) 27 = .ok (.iload_n 2, 1) by decide +kernel) rfl rfl ?_
    refine e_iast (n := 40) (show decode (mC 88) 28 = .ok (.iastore, 1) by decide +kernel) (se_ok hG h_a 2 (by decide)) (se_ln hG h_a 2 (by decide)) (by decide) (s7 p1) (s8 p1) ?_
    refine e_L (L' := [some (aR a), some (aI v1), some (aI v2), some (aI v3)]) (st' := [aR a]) (show decode (mC 88) 29 = .ok (.aload_n 0, 1) by decide +kernel) rfl (by show (if a = 0 then none else some (_, _)) = _; rw [if_neg (show ¬ a = 0 from se_ne h_a 0)]) ?_
    refine e_getR (w := (a + 3)) (show decode (mC 88) 30 = .ok (.getfield 18, 3) by decide +kernel) (show pl 9 18 = some (0, 9, 4, 0) by decide +kernel) (by decide) (se_ok hG h_a 0 (by decide)) (se_rf hG h_a 2 (by decide)) ?_
    refine e_L (L' := [some (aR a), some (aI v1), some (aI v2), some (aI v3)]) (st' := [aR a, aR (a + 3)]) (show decode (mC 88) 33 = .ok (.aload_n 0, 1) by decide +kernel) rfl (by show (if a = 0 then none else some (_, _)) = _; rw [if_neg (show ¬ a = 0 from se_ne h_a 0)]) ?_
    refine e_getIx (show decode (mC 88) 34 = .ok (.getfield 40, 3) by decide +kernel) (show pl 9 40 = some (0, 9, 6, 0) by decide +kernel) (by decide) (se_ok hG h_a 0 (by decide)) ex4 ?_
    refine e_L (L' := [some (aR a), some (aI v1), some (aI v2), some (aI v3)]) (st' := [aI v3, aI x4, aR (a + 3)]) (show decode (mC 88) 37 = .ok (.iload_n 3, 1) by decide +kernel) rfl rfl ?_
    refine e_iast (n := 40) (show decode (mC 88) 38 = .ok (.iastore, 1) by decide +kernel) (se_ok hG h_a 3 (by decide)) (se_ln hG h_a 3 (by decide)) (by decide) (s10 p1) (s11 p1) ?_
    refine e_L (L' := [some (aR a), some (aI v1), some (aI v2), some (aI v3)]) (st' := [aR a]) (show decode (mC 88) 39 = .ok (.aload_n 0, 1) by decide +kernel) rfl (by show (if a = 0 then none else some (_, _)) = _; rw [if_neg (show ¬ a = 0 from se_ne h_a 0)]) ?_
    refine e_P (st' := [aR a, aR a]) (show decode (mC 88) 40 = .ok (.dup, 1) by decide +kernel) rfl rfl rfl ?_
    refine e_getIx (show decode (mC 88) 41 = .ok (.getfield 40, 3) by decide +kernel) (show pl 9 40 = some (0, 9, 6, 0) by decide +kernel) (by decide) (se_ok hG h_a 0 (by decide)) ex5 ?_
    refine e_P (st' := [aI 1, aI x5, aR a]) (show decode (mC 88) 44 = .ok (.iconst 1, 1) by decide +kernel) rfl rfl rfl ?_
    refine e_P (st' := [aI (x5 + 1), aR a]) (show decode (mC 88) 45 = .ok (.iadd, 1) by decide +kernel) rfl rfl rfl ?_
    refine e_putI (show decode (mC 88) 46 = .ok (.putfield 40, 3) by decide +kernel) (show pl 9 40 = some (0, 9, 6, 0) by decide +kernel) (by decide) (se_ok hG h_a 0 (by decide)) ?_
    refine e_P (st' := [aI 1]) (show decode (mC 88) 49 = .ok (.iconst 1, 1) by decide +kernel) rfl rfl rfl ?_
    exact e_zret (show decode (mC 88) 50 = .ok (.ireturn, 1) by decide +kernel) rfl (by decide) (z13 p1)
/-- SoulOffice$Sentence.soulsSaid(LSoulOffice$Life;)I, from 0 -/
theorem b89_0 (hG : Shp G) {x1 : Int} {a : Nat} (h_a : Sent a) {b : Nat} (h_b : Life b)
    (ex1 : c 9 1 = x1)
    (k1 : T (d + 1) 89 17 [some (aR a), some (aR b), some (aI ((q_shl 1 x1) - 1)), some (aI 0), some (aI 0)] [] (G, c) Q) :
    T (d + 1) 89 0 [some (aR a), some (aR b), none, none, none] [] (G, c) Q := by
  refine e_P (st' := [aI 1]) (show decode (mC 89) 0 = .ok (.iconst 1, 1) by decide +kernel) rfl rfl rfl ?_
  refine e_L (L' := [some (aR a), some (aR b), none, none, none]) (st' := [aR a, aI 1]) (show decode (mC 89) 1 = .ok (.aload_n 0, 1) by decide +kernel) rfl (by show (if a = 0 then none else some (_, _)) = _; rw [if_neg (show ¬ a = 0 from se_ne h_a 0)]) ?_
  refine e_getR (w := 9) (show decode (mC 89) 2 = .ok (.getfield 28, 3) by decide +kernel) (show pl 9 28 = some (0, 9, 1, 0) by decide +kernel) (by decide) (se_ok hG h_a 0 (by decide)) (se_r1 hG h_a) ?_
  refine e_getIx (show decode (mC 89) 5 = .ok (.getfield 116, 3) by decide +kernel) (show pl 9 116 = some (0, 8, 1, 0) by decide +kernel) (by decide) (sh_ok hG (by decide +kernel)) ex1 ?_
  refine e_P (st' := [aI (q_shl 1 x1)]) (show decode (mC 89) 8 = .ok (.ishl, 1) by decide +kernel) rfl rfl rfl ?_
  refine e_P (st' := [aI 1, aI (q_shl 1 x1)]) (show decode (mC 89) 9 = .ok (.iconst 1, 1) by decide +kernel) rfl rfl rfl ?_
  refine e_P (st' := [aI ((q_shl 1 x1) - 1)]) (show decode (mC 89) 10 = .ok (.isub, 1) by decide +kernel) rfl rfl rfl ?_
  refine e_L (L' := [some (aR a), some (aR b), some (aI ((q_shl 1 x1) - 1)), none, none]) (st' := []) (show decode (mC 89) 11 = .ok (.istore_n 2, 1) by decide +kernel) rfl rfl ?_
  refine e_P (st' := [aI 0]) (show decode (mC 89) 12 = .ok (.iconst 0, 1) by decide +kernel) rfl rfl rfl ?_
  refine e_L (L' := [some (aR a), some (aR b), some (aI ((q_shl 1 x1) - 1)), some (aI 0), none]) (st' := []) (show decode (mC 89) 13 = .ok (.istore_n 3, 1) by decide +kernel) rfl rfl ?_
  refine e_P (st' := [aI 0]) (show decode (mC 89) 14 = .ok (.iconst 0, 1) by decide +kernel) rfl rfl rfl ?_
  refine e_L (L' := [some (aR a), some (aR b), some (aI ((q_shl 1 x1) - 1)), some (aI 0), some (aI 0)]) (st' := []) (show decode (mC 89) 15 = .ok (.istore 4, 2) by decide +kernel) rfl rfl ?_
  exact k1
/-- SoulOffice$Sentence.soulsSaid(LSoulOffice$Life;)I, from 17 -/
theorem b89_17 (hG : Shp G) {v2 v3 v4 x1 x2 x3 : Int} {a : Nat} (h_a : Sent a) {b : Nat} (h_b : Life b) (hQ : ∀ o o' h', q_eqo o o' → Q o h' → Q o' h')
    (ex1 : c a 6 = x1)
    (s1 : -2147483648 ≤ v4 ∧ v4 < 2147483648)
    (s2 : -2147483648 ≤ x1 ∧ x1 < 2147483648)
    (k3 : (x1 ≤ v4) → T (d + 1) 89 180 [some (aR a), none, none, none, none] [] (G, c) Q)
    (k4 : (v4 < x1) → (40 ≤ v4) → T (d + 1) 89 180 [some (aR a), none, none, none, none] [] (G, c) Q)
    (s5 : (v4 < x1) → (v4 < 40) → 0 ≤ v4)
    (s6 : (v4 < x1) → (v4 < 40) → v4 < 40)
    (ex2 : c (a + 1) v4 = x2)
    (s8 : (v4 < x1) → (v4 < 40) → -2147483648 ≤ x2 ∧ x2 < 2147483648)
    (k9 : (v4 < x1) → (v4 < 40) → (¬ x2 = 12) → T (d + 1) 89 72 [some (aR a), some (aR b), some (aI v2), some (aI v3), some (aI v4)] [] (G, c) Q)
    (s10 : (v4 < x1) → (v4 < 40) → (x2 = 12) → -2147483648 ≤ v3 ∧ v3 < 2147483648)
    (k11 : (v4 < x1) → (v4 < 40) → (x2 = 12) → (v3 ≤ 0) → T (d + 1) 89 72 [some (aR a), some (aR b), some (aI v2), some (aI v3), some (aI v4)] [] (G, c) Q)
    (s12 : (v4 < x1) → (v4 < 40) → (x2 = 12) → (0 < v3) → 0 ≤ (v3 - 1))
    (s13 : (v4 < x1) → (v4 < 40) → (x2 = 12) → (0 < v3) → (v3 - 1) < 40)
    (ex3 : c (a + 4) (v3 - 1) = x3)
    (k15 : (v4 < x1) → (v4 < 40) → (x2 = 12) → (0 < v3) → T (d + 1) 89 174 [some (aR a), some (aR b), some (aI v2), some (aI v3), some (aI v4)] [] (G, (q_up c (a + 4) (v3 - 1) (q_and v2 (q_xor x3 (-1))))) Q) :
    T (d + 1) 89 17 [some (aR a), some (aR b), some (aI v2), some (aI v3), some (aI v4)] [] (G, c) Q := by
  refine e_L (L' := [some (aR a), some (aR b), some (aI v2), some (aI v3), some (aI v4)]) (st' := [aI v4]) (show decode (mC 89) 17 = .ok (.iload 4, 2) by decide +kernel) rfl rfl ?_
  refine e_L (L' := [some (aR a), some (aR b), some (aI v2), some (aI v3), some (aI v4)]) (st' := [aR a, aI v4]) (show decode (mC 89) 19 = .ok (.aload_n 0, 1) by decide +kernel) rfl (by show (if a = 0 then none else some (_, _)) = _; rw [if_neg (show ¬ a = 0 from se_ne h_a 0)]) ?_
  refine e_getIx (show decode (mC 89) 20 = .ok (.getfield 40, 3) by decide +kernel) (show pl 9 40 = some (0, 9, 6, 0) by decide +kernel) (by decide) (se_ok hG h_a 0 (by decide)) ex1 ?_
  refine e_ge2 (t := 180) (show decode (mC 89) 23 = .ok (.if_icmp .ge 157, 3) by decide +kernel) (by decide) s1 s2 (fun p1 => ?_) (fun p1 => ?_)
  · exact T_le hQ (leS (leN (leN (leN (leN leE))))) (k3 p1)
  · refine e_L (L' := [some (aR a), some (aR b), some (aI v2), some (aI v3), some (aI v4)]) (st' := [aI v4]) (show decode (mC 89) 26 = .ok (.iload 4, 2) by decide +kernel) rfl rfl ?_
    refine e_P (st' := [aI 40, aI v4]) (show decode (mC 89) 28 = .ok (.bipush 40, 2) by decide +kernel) rfl rfl rfl ?_
    refine e_ge2 (t := 180) (show decode (mC 89) 30 = .ok (.if_icmp .ge 150, 3) by decide +kernel) (by decide) s1 (by decide) (fun p2 => ?_) (fun p2 => ?_)
    · exact T_le hQ (leS (leN (leN (leN (leN leE))))) (k4 p1 p2)
    · refine e_L (L' := [some (aR a), some (aR b), some (aI v2), some (aI v3), some (aI v4)]) (st' := [aR a]) (show decode (mC 89) 33 = .ok (.aload_n 0, 1) by decide +kernel) rfl (by show (if a = 0 then none else some (_, _)) = _; rw [if_neg (show ¬ a = 0 from se_ne h_a 0)]) ?_
      refine e_getR (w := (a + 1)) (show decode (mC 89) 34 = .ok (.getfield 11, 3) by decide +kernel) (show pl 9 11 = some (0, 9, 2, 0) by decide +kernel) (by decide) (se_ok hG h_a 0 (by decide)) (se_rf hG h_a 0 (by decide)) ?_
      refine e_L (L' := [some (aR a), some (aR b), some (aI v2), some (aI v3), some (aI v4)]) (st' := [aI v4, aR (a + 1)]) (show decode (mC 89) 37 = .ok (.iload 4, 2) by decide +kernel) rfl rfl ?_
      refine e_ialdx (n := 40) (show decode (mC 89) 39 = .ok (.iaload, 1) by decide +kernel) (se_ok hG h_a 1 (by decide)) (se_ln hG h_a 1 (by decide)) (by decide) (s5 p1 p2) (s6 p1 p2) ex2 ?_
      refine e_P (st' := [aI 12, aI x2]) (show decode (mC 89) 40 = .ok (.bipush 12, 2) by decide +kernel) rfl rfl rfl ?_
      refine e_ne2 (t := 72) (show decode (mC 89) 42 = .ok (.if_icmp .ne 30, 3) by decide +kernel) (by decide) (s8 p1 p2) (by decide) (fun p3 => ?_) (fun p3 => ?_)
      · exact (k9 p1 p2 p3)
      · refine e_L (L' := [some (aR a), some (aR b), some (aI v2), some (aI v3), some (aI v4)]) (st' := [aI v3]) (show decode (mC 89) 45 = .ok (.iload_n 3, 1) by decide +kernel) rfl rfl ?_
        refine e_le1 (t := 72) (show decode (mC 89) 46 = .ok (.ifCond .le 26, 3) by decide +kernel) (by decide) (s10 p1 p2 p3) (fun p4 => ?_) (fun p4 => ?_)
        · exact (k11 p1 p2 p3 p4)
        · refine e_L (L' := [some (aR a), some (aR b), some (aI v2), some (aI v3), some (aI v4)]) (st' := [aR a]) (show decode (mC 89) 49 = .ok (.aload_n 0, 1) by decide +kernel) rfl (by show (if a = 0 then none else some (_, _)) = _; rw [if_neg (show ¬ a = 0 from se_ne h_a 0)]) ?_
          refine e_getR (w := (a + 4)) (show decode (mC 89) 50 = .ok (.getfield 21, 3) by decide +kernel) (show pl 9 21 = some (0, 9, 5, 0) by decide +kernel) (by decide) (se_ok hG h_a 0 (by decide)) (se_rf hG h_a 3 (by decide)) ?_
          refine e_L (L' := [some (aR a), some (aR b), some (aI v2), some (aI v3), some (aI v4)]) (st' := [aI v3, aR (a + 4)]) (show decode (mC 89) 53 = .ok (.iload_n 3, 1) by decide +kernel) rfl rfl ?_
          refine e_P (st' := [aI 1, aI v3, aR (a + 4)]) (show decode (mC 89) 54 = .ok (.iconst 1, 1) by decide +kernel) rfl rfl rfl ?_
          refine e_P (st' := [aI (v3 - 1), aR (a + 4)]) (show decode (mC 89) 55 = .ok (.isub, 1) by decide +kernel) rfl rfl rfl ?_
          refine e_L (L' := [some (aR a), some (aR b), some (aI v2), some (aI v3), some (aI v4)]) (st' := [aI v2, aI (v3 - 1), aR (a + 4)]) (show decode (mC 89) 56 = .ok (.iload_n 2, 1) by decide +kernel) rfl rfl ?_
          refine e_L (L' := [some (aR a), some (aR b), some (aI v2), some (aI v3), some (aI v4)]) (st' := [aR a, aI v2, aI (v3 - 1), aR (a + 4)]) (show decode (mC 89) 57 = .ok (.aload_n 0, 1) by decide +kernel) rfl (by show (if a = 0 then none else some (_, _)) = _; rw [if_neg (show ¬ a = 0 from se_ne h_a 0)]) ?_
          refine e_getR (w := (a + 4)) (show decode (mC 89) 58 = .ok (.getfield 21, 3) by decide +kernel) (show pl 9 21 = some (0, 9, 5, 0) by decide +kernel) (by decide) (se_ok hG h_a 0 (by decide)) (se_rf hG h_a 3 (by decide)) ?_
          refine e_L (L' := [some (aR a), some (aR b), some (aI v2), some (aI v3), some (aI v4)]) (st' := [aI v3, aR (a + 4), aI v2, aI (v3 - 1), aR (a + 4)]) (show decode (mC 89) 61 = .ok (.iload_n 3, 1) by decide +kernel) rfl rfl ?_
          refine e_P (st' := [aI 1, aI v3, aR (a + 4), aI v2, aI (v3 - 1), aR (a + 4)]) (show decode (mC 89) 62 = .ok (.iconst 1, 1) by decide +kernel) rfl rfl rfl ?_
          refine e_P (st' := [aI (v3 - 1), aR (a + 4), aI v2, aI (v3 - 1), aR (a + 4)]) (show decode (mC 89) 63 = .ok (.isub, 1) by decide +kernel) rfl rfl rfl ?_
          refine e_ialdx (n := 40) (show decode (mC 89) 64 = .ok (.iaload, 1) by decide +kernel) (se_ok hG h_a 4 (by decide)) (se_ln hG h_a 4 (by decide)) (by decide) (s12 p1 p2 p3 p4) (s13 p1 p2 p3 p4) ex3 ?_
          refine e_P (st' := [aI (-1), aI x3, aI v2, aI (v3 - 1), aR (a + 4)]) (show decode (mC 89) 65 = .ok (.iconst (-1), 1) by decide +kernel) rfl rfl rfl ?_
          refine e_P (st' := [aI (q_xor x3 (-1)), aI v2, aI (v3 - 1), aR (a + 4)]) (show decode (mC 89) 66 = .ok (.ixor, 1) by decide +kernel) rfl rfl rfl ?_
          refine e_P (st' := [aI (q_and v2 (q_xor x3 (-1))), aI (v3 - 1), aR (a + 4)]) (show decode (mC 89) 67 = .ok (.iand, 1) by decide +kernel) rfl rfl rfl ?_
          refine e_iast (n := 40) (show decode (mC 89) 68 = .ok (.iastore, 1) by decide +kernel) (se_ok hG h_a 4 (by decide)) (se_ln hG h_a 4 (by decide)) (by decide) (s12 p1 p2 p3 p4) (s13 p1 p2 p3 p4) ?_
          refine e_go (t := 174) (show decode (mC 89) 69 = .ok (.goto 105, 3) by decide +kernel) (by decide) ?_
          exact (k15 p1 p2 p3 p4)
/-- SoulOffice$Sentence.soulsSaid(LSoulOffice$Life;)I, from 72 -/
theorem b89_72 (hG : Shp G) {v2 v3 v4 x1 x2 x3 x4 x5 x6 x7 x8 x9 : Int} {a : Nat} (h_a : Sent a) {b : Nat} (h_b : Life b)
    (s0 : 0 ≤ v4)
    (s1 : v4 < 40)
    (ex1 : c (a + 1) v4 = x1)
    (s3 : -2147483648 ≤ x1 ∧ x1 < 2147483648)
    (ex2 : c (a + 1) v4 = x2)
    (s5 : (¬ x1 = 11) → -2147483648 ≤ x2 ∧ x2 < 2147483648)
    (s6 : (¬ x1 = 11) → (¬ x2 = 10) → -2147483648 ≤ v3 ∧ v3 < 2147483648)
    (k7 : (¬ x1 = 11) → (¬ x2 = 10) → (40 ≤ v3) → T (d + 1) 89 174 [some (aR a), some (aR b), some (aI v2), some (aI v3), some (aI v4)] [] (G, c) Q)
    (m8 : (¬ x1 = 11) → (¬ x2 = 10) → (v3 < 40) → TM d 90 [aR a, aI v4, aR b] (G, c) (fun r h' => T (d + 1) 89 170 [some (aR a), some (aR b), some (aI v2), some (aI v3), some (aI v4)] (r.toList ++ [aI v3, aR (a + 4)]) h' Q))
    (s9 : (¬ x1 = 11) → (x2 = 10) → -2147483648 ≤ v3 ∧ v3 < 2147483648)
    (k10 : (¬ x1 = 11) → (x2 = 10) → (v3 ≤ 1) → (40 ≤ v3) → T (d + 1) 89 174 [some (aR a), some (aR b), some (aI v2), some (aI v3), some (aI v4)] [] (G, c) Q)
    (m11 : (¬ x1 = 11) → (x2 = 10) → (v3 ≤ 1) → (v3 < 40) → TM d 90 [aR a, aI v4, aR b] (G, c) (fun r h' => T (d + 1) 89 170 [some (aR a), some (aR b), some (aI v2), some (aI v3), some (aI v4)] (r.toList ++ [aI v3, aR (a + 4)]) h' Q))
    (s12 : (¬ x1 = 11) → (x2 = 10) → (1 < v3) → 0 ≤ ((v3 + (-1)) - 1))
    (s13 : (¬ x1 = 11) → (x2 = 10) → (1 < v3) → ((v3 + (-1)) - 1) < 40)
    (ex3 : c (a + 4) ((v3 + (-1)) - 1) = x3)
    (s15 : (¬ x1 = 11) → (x2 = 10) → (1 < v3) → 0 ≤ (v3 + (-1)))
    (s16 : (¬ x1 = 11) → (x2 = 10) → (1 < v3) → (v3 + (-1)) < 40)
    (ex4 : c (a + 4) (v3 + (-1)) = x4)
    (k18 : (¬ x1 = 11) → (x2 = 10) → (1 < v3) → T (d + 1) 89 174 [some (aR a), some (aR b), some (aI v2), some (aI (v3 + (-1))), some (aI v4)] [] (G, (q_up c (a + 4) ((v3 + (-1)) - 1) (q_or x3 x4))) Q)
    (s19 : (x1 = 11) → -2147483648 ≤ v3 ∧ v3 < 2147483648)
    (ex5 : c (a + 1) v4 = x5)
    (s21 : (x1 = 11) → (v3 ≤ 1) → -2147483648 ≤ x5 ∧ x5 < 2147483648)
    (k22 : (x1 = 11) → (v3 ≤ 1) → (¬ x5 = 10) → (40 ≤ v3) → T (d + 1) 89 174 [some (aR a), some (aR b), some (aI v2), some (aI v3), some (aI v4)] [] (G, c) Q)
    (m23 : (x1 = 11) → (v3 ≤ 1) → (¬ x5 = 10) → (v3 < 40) → TM d 90 [aR a, aI v4, aR b] (G, c) (fun r h' => T (d + 1) 89 170 [some (aR a), some (aR b), some (aI v2), some (aI v3), some (aI v4)] (r.toList ++ [aI v3, aR (a + 4)]) h' Q))
    (k24 : (x1 = 11) → (v3 ≤ 1) → (x5 = 10) → (v3 ≤ 1) → (40 ≤ v3) → T (d + 1) 89 174 [some (aR a), some (aR b), some (aI v2), some (aI v3), some (aI v4)] [] (G, c) Q)
    (m25 : (x1 = 11) → (v3 ≤ 1) → (x5 = 10) → (v3 ≤ 1) → (v3 < 40) → TM d 90 [aR a, aI v4, aR b] (G, c) (fun r h' => T (d + 1) 89 170 [some (aR a), some (aR b), some (aI v2), some (aI v3), some (aI v4)] (r.toList ++ [aI v3, aR (a + 4)]) h' Q))
    (s26 : (x1 = 11) → (v3 ≤ 1) → (x5 = 10) → (1 < v3) → 0 ≤ ((v3 + (-1)) - 1))
    (s27 : (x1 = 11) → (v3 ≤ 1) → (x5 = 10) → (1 < v3) → ((v3 + (-1)) - 1) < 40)
    (ex6 : c (a + 4) ((v3 + (-1)) - 1) = x6)
    (s29 : (x1 = 11) → (v3 ≤ 1) → (x5 = 10) → (1 < v3) → 0 ≤ (v3 + (-1)))
    (s30 : (x1 = 11) → (v3 ≤ 1) → (x5 = 10) → (1 < v3) → (v3 + (-1)) < 40)
    (ex7 : c (a + 4) (v3 + (-1)) = x7)
    (k32 : (x1 = 11) → (v3 ≤ 1) → (x5 = 10) → (1 < v3) → T (d + 1) 89 174 [some (aR a), some (aR b), some (aI v2), some (aI (v3 + (-1))), some (aI v4)] [] (G, (q_up c (a + 4) ((v3 + (-1)) - 1) (q_or x6 x7))) Q)
    (s33 : (x1 = 11) → (1 < v3) → 0 ≤ ((v3 + (-1)) - 1))
    (s34 : (x1 = 11) → (1 < v3) → ((v3 + (-1)) - 1) < 40)
    (ex8 : c (a + 4) ((v3 + (-1)) - 1) = x8)
    (s36 : (x1 = 11) → (1 < v3) → 0 ≤ (v3 + (-1)))
    (s37 : (x1 = 11) → (1 < v3) → (v3 + (-1)) < 40)
    (ex9 : c (a + 4) (v3 + (-1)) = x9)
    (k39 : (x1 = 11) → (1 < v3) → T (d + 1) 89 174 [some (aR a), some (aR b), some (aI v2), some (aI (v3 + (-1))), some (aI v4)] [] (G, (q_up c (a + 4) ((v3 + (-1)) - 1) (q_and x8 x9))) Q) :
    T (d + 1) 89 72 [some (aR a), some (aR b), some (aI v2), some (aI v3), some (aI v4)] [] (G, c) Q := by
  refine e_L (L' := [some (aR a), some (aR b), some (aI v2), some (aI v3), some (aI v4)]) (st' := [aR a]) (show decode (mC 89) 72 = .ok (.aload_n 0, 1) by decide +kernel) rfl (by show (if a = 0 then none else some (_, _)) = _; rw [if_neg (show ¬ a = 0 from se_ne h_a 0)]) ?_
  refine e_getR (w := (a + 1)) (show decode (mC 89) 73 = .ok (.getfield 11, 3) by decide +kernel) (show pl 9 11 = some (0, 9, 2, 0) by decide +kernel) (by decide) (se_ok hG h_a 0 (by decide)) (se_rf hG h_a 0 (by decide)) ?_
  refine e_L (L' := [some (aR a), some (aR b), some (aI v2), some (aI v3), some (aI v4)]) (st' := [aI v4, aR (a + 1)]) (show decode (mC 89) 76 = .ok (.iload 4, 2) by decide +kernel) rfl rfl ?_
  refine e_ialdx (n := 40) (show decode (mC 89) 78 = .ok (.iaload, 1) by decide +kernel) (se_ok hG h_a 1 (by decide)) (se_ln hG h_a 1 (by decide)) (by decide) s0 s1 ex1 ?_
  refine e_P (st' := [aI 11, aI x1]) (show decode (mC 89) 79 = .ok (.bipush 11, 2) by decide +kernel) rfl rfl rfl ?_
  refine e_ne2 (t := 112) (show decode (mC 89) 81 = .ok (.if_icmp .ne 31, 3) by decide +kernel) (by decide) s3 (by decide) (fun p1 => ?_) (fun p1 => ?_)
  · refine e_L (L' := [some (aR a), some (aR b), some (aI v2), some (aI v3), some (aI v4)]) (st' := [aR a]) (show decode (mC 89) 112 = .ok (.aload_n 0, 1) by decide +kernel) rfl (by show (if a = 0 then none else some (_, _)) = _; rw [if_neg (show ¬ a = 0 from se_ne h_a 0)]) ?_
    refine e_getR (w := (a + 1)) (show decode (mC 89) 113 = .ok (.getfield 11, 3) by decide +kernel) (show pl 9 11 = some (0, 9, 2, 0) by decide +kernel) (by decide) (se_ok hG h_a 0 (by decide)) (se_rf hG h_a 0 (by decide)) ?_
    refine e_L (L' := [some (aR a), some (aR b), some (aI v2), some (aI v3), some (aI v4)]) (st' := [aI v4, aR (a + 1)]) (show decode (mC 89) 116 = .ok (.iload 4, 2) by decide +kernel) rfl rfl ?_
    refine e_ialdx (n := 40) (show decode (mC 89) 118 = .ok (.iaload, 1) by decide +kernel) (se_ok hG h_a 1 (by decide)) (se_ln hG h_a 1 (by decide)) (by decide) s0 s1 ex2 ?_
    refine e_P (st' := [aI 10, aI x2]) (show decode (mC 89) 119 = .ok (.bipush 10, 2) by decide +kernel) rfl rfl rfl ?_
    refine e_ne2 (t := 152) (show decode (mC 89) 121 = .ok (.if_icmp .ne 31, 3) by decide +kernel) (by decide) (s5 p1) (by decide) (fun p2 => ?_) (fun p2 => ?_)
    · refine e_L (L' := [some (aR a), some (aR b), some (aI v2), some (aI v3), some (aI v4)]) (st' := [aI v3]) (show decode (mC 89) 152 = .ok (.iload_n 3, 1) by decide +kernel) rfl rfl ?_
      refine e_P (st' := [aI 40, aI v3]) (show decode (mC 89) 153 = .ok (.bipush 40, 2) by decide +kernel) rfl rfl rfl ?_
      refine e_ge2 (t := 174) (show decode (mC 89) 155 = .ok (.if_icmp .ge 19, 3) by decide +kernel) (by decide) (s6 p1 p2) (by decide) (fun p3 => ?_) (fun p3 => ?_)
      · exact (k7 p1 p2 p3)
      · refine e_L (L' := [some (aR a), some (aR b), some (aI v2), some (aI v3), some (aI v4)]) (st' := [aR a]) (show decode (mC 89) 158 = .ok (.aload_n 0, 1) by decide +kernel) rfl (by show (if a = 0 then none else some (_, _)) = _; rw [if_neg (show ¬ a = 0 from se_ne h_a 0)]) ?_
        refine e_getR (w := (a + 4)) (show decode (mC 89) 159 = .ok (.getfield 21, 3) by decide +kernel) (show pl 9 21 = some (0, 9, 5, 0) by decide +kernel) (by decide) (se_ok hG h_a 0 (by decide)) (se_rf hG h_a 3 (by decide)) ?_
        refine e_L (L' := [some (aR a), some (aR b), some (aI v2), some (aI v3), some (aI v4)]) (st' := [aI v3, aR (a + 4)]) (show decode (mC 89) 162 = .ok (.iload_n 3, 1) by decide +kernel) rfl rfl ?_
        refine e_L (L' := [some (aR a), some (aR b), some (aI v2), some (aI v3), some (aI v4)]) (st' := [aR a, aI v3, aR (a + 4)]) (show decode (mC 89) 163 = .ok (.aload_n 0, 1) by decide +kernel) rfl (by show (if a = 0 then none else some (_, _)) = _; rw [if_neg (show ¬ a = 0 from se_ne h_a 0)]) ?_
        refine e_L (L' := [some (aR a), some (aR b), some (aI v2), some (aI v3), some (aI v4)]) (st' := [aI v4, aR a, aI v3, aR (a + 4)]) (show decode (mC 89) 164 = .ok (.iload 4, 2) by decide +kernel) rfl rfl ?_
        refine e_L (L' := [some (aR a), some (aR b), some (aI v2), some (aI v3), some (aI v4)]) (st' := [aR b, aI v4, aR a, aI v3, aR (a + 4)]) (show decode (mC 89) 166 = .ok (.aload_n 1, 1) by decide +kernel) rfl (by show (if b = 0 then none else some (_, _)) = _; rw [if_neg (show ¬ b = 0 from lf_ne h_b 0)]) ?_
        exact e_V (as := [aR a, aI v4, aR b]) (rest := [aI v3, aR (a + 4)]) (show decode (mC 89) 167 = .ok (.invokevirtual 130, 3) by decide +kernel) (by decide +kernel) (show (decide ((3 : Nat) = mA 90) && decide (90 < q_law)) = true by decide +kernel) rfl (show (2 : Nat) ≤ 8 by decide) (show (3 : Nat) ≤ mL 90 by decide +kernel) rfl (se_ok hG h_a 0 (by decide)) (m8 p1 p2 p3)
    · refine e_L (L' := [some (aR a), some (aR b), some (aI v2), some (aI v3), some (aI v4)]) (st' := [aI v3]) (show decode (mC 89) 124 = .ok (.iload_n 3, 1) by decide +kernel) rfl rfl ?_
      refine e_P (st' := [aI 1, aI v3]) (show decode (mC 89) 125 = .ok (.iconst 1, 1) by decide +kernel) rfl rfl rfl ?_
      refine e_le2 (t := 152) (show decode (mC 89) 126 = .ok (.if_icmp .le 26, 3) by decide +kernel) (by decide) (s9 p1 p2) (by decide) (fun p3 => ?_) (fun p3 => ?_)
      · refine e_L (L' := [some (aR a), some (aR b), some (aI v2), some (aI v3), some (aI v4)]) (st' := [aI v3]) (show decode (mC 89) 152 = .ok (.iload_n 3, 1) by decide +kernel) rfl rfl ?_
        refine e_P (st' := [aI 40, aI v3]) (show decode (mC 89) 153 = .ok (.bipush 40, 2) by decide +kernel) rfl rfl rfl ?_
        refine e_ge2 (t := 174) (show decode (mC 89) 155 = .ok (.if_icmp .ge 19, 3) by decide +kernel) (by decide) (s9 p1 p2) (by decide) (fun p4 => ?_) (fun p4 => ?_)
        · exact (k10 p1 p2 p3 p4)
        · refine e_L (L' := [some (aR a), some (aR b), some (aI v2), some (aI v3), some (aI v4)]) (st' := [aR a]) (show decode (mC 89) 158 = .ok (.aload_n 0, 1) by decide +kernel) rfl (by show (if a = 0 then none else some (_, _)) = _; rw [if_neg (show ¬ a = 0 from se_ne h_a 0)]) ?_
          refine e_getR (w := (a + 4)) (show decode (mC 89) 159 = .ok (.getfield 21, 3) by decide +kernel) (show pl 9 21 = some (0, 9, 5, 0) by decide +kernel) (by decide) (se_ok hG h_a 0 (by decide)) (se_rf hG h_a 3 (by decide)) ?_
          refine e_L (L' := [some (aR a), some (aR b), some (aI v2), some (aI v3), some (aI v4)]) (st' := [aI v3, aR (a + 4)]) (show decode (mC 89) 162 = .ok (.iload_n 3, 1) by decide +kernel) rfl rfl ?_
          refine e_L (L' := [some (aR a), some (aR b), some (aI v2), some (aI v3), some (aI v4)]) (st' := [aR a, aI v3, aR (a + 4)]) (show decode (mC 89) 163 = .ok (.aload_n 0, 1) by decide +kernel) rfl (by show (if a = 0 then none else some (_, _)) = _; rw [if_neg (show ¬ a = 0 from se_ne h_a 0)]) ?_
          refine e_L (L' := [some (aR a), some (aR b), some (aI v2), some (aI v3), some (aI v4)]) (st' := [aI v4, aR a, aI v3, aR (a + 4)]) (show decode (mC 89) 164 = .ok (.iload 4, 2) by decide +kernel) rfl rfl ?_
          refine e_L (L' := [some (aR a), some (aR b), some (aI v2), some (aI v3), some (aI v4)]) (st' := [aR b, aI v4, aR a, aI v3, aR (a + 4)]) (show decode (mC 89) 166 = .ok (.aload_n 1, 1) by decide +kernel) rfl (by show (if b = 0 then none else some (_, _)) = _; rw [if_neg (show ¬ b = 0 from lf_ne h_b 0)]) ?_
          exact e_V (as := [aR a, aI v4, aR b]) (rest := [aI v3, aR (a + 4)]) (show decode (mC 89) 167 = .ok (.invokevirtual 130, 3) by decide +kernel) (by decide +kernel) (show (decide ((3 : Nat) = mA 90) && decide (90 < q_law)) = true by decide +kernel) rfl (show (2 : Nat) ≤ 8 by decide) (show (3 : Nat) ≤ mL 90 by decide +kernel) rfl (se_ok hG h_a 0 (by decide)) (m11 p1 p2 p3 p4)
      · refine e_L (L' := [some (aR a), some (aR b), some (aI v2), some (aI (v3 + (-1))), some (aI v4)]) (st' := []) (show decode (mC 89) 129 = .ok (.iinc 3 (-1), 3) by decide +kernel) rfl rfl ?_
        refine e_L (L' := [some (aR a), some (aR b), some (aI v2), some (aI (v3 + (-1))), some (aI v4)]) (st' := [aR a]) (show decode (mC 89) 132 = .ok (.aload_n 0, 1) by decide +kernel) rfl (by show (if a = 0 then none else some (_, _)) = _; rw [if_neg (show ¬ a = 0 from se_ne h_a 0)]) ?_
        refine e_getR (w := (a + 4)) (show decode (mC 89) 133 = .ok (.getfield 21, 3) by decide +kernel) (show pl 9 21 = some (0, 9, 5, 0) by decide +kernel) (by decide) (se_ok hG h_a 0 (by decide)) (se_rf hG h_a 3 (by decide)) ?_
        refine e_L (L' := [some (aR a), some (aR b), some (aI v2), some (aI (v3 + (-1))), some (aI v4)]) (st' := [aI (v3 + (-1)), aR (a + 4)]) (show decode (mC 89) 136 = .ok (.iload_n 3, 1) by decide +kernel) rfl rfl ?_
        refine e_P (st' := [aI 1, aI (v3 + (-1)), aR (a + 4)]) (show decode (mC 89) 137 = .ok (.iconst 1, 1) by decide +kernel) rfl rfl rfl ?_
        refine e_P (st' := [aI ((v3 + (-1)) - 1), aR (a + 4)]) (show decode (mC 89) 138 = .ok (.isub, 1) by decide +kernel) rfl rfl rfl ?_
        refine e_P (st' := [aI ((v3 + (-1)) - 1), aR (a + 4), aI ((v3 + (-1)) - 1), aR (a + 4)]) (show decode (mC 89) 139 = .ok (.dup2, 1) by decide +kernel) rfl rfl rfl ?_
        refine e_ialdx (n := 40) (show decode (mC 89) 140 = .ok (.iaload, 1) by decide +kernel) (se_ok hG h_a 4 (by decide)) (se_ln hG h_a 4 (by decide)) (by decide) (s12 p1 p2 p3) (s13 p1 p2 p3) ex3 ?_
        refine e_L (L' := [some (aR a), some (aR b), some (aI v2), some (aI (v3 + (-1))), some (aI v4)]) (st' := [aR a, aI x3, aI ((v3 + (-1)) - 1), aR (a + 4)]) (show decode (mC 89) 141 = .ok (.aload_n 0, 1) by decide +kernel) rfl (by show (if a = 0 then none else some (_, _)) = _; rw [if_neg (show ¬ a = 0 from se_ne h_a 0)]) ?_
        refine e_getR (w := (a + 4)) (show decode (mC 89) 142 = .ok (.getfield 21, 3) by decide +kernel) (show pl 9 21 = some (0, 9, 5, 0) by decide +kernel) (by decide) (se_ok hG h_a 0 (by decide)) (se_rf hG h_a 3 (by decide)) ?_
        refine e_L (L' := [some (aR a), some (aR b), some (aI v2), some (aI (v3 + (-1))), some (aI v4)]) (st' := [aI (v3 + (-1)), aR (a + 4), aI x3, aI ((v3 + (-1)) - 1), aR (a + 4)]) (show decode (mC 89) 145 = .ok (.iload_n 3, 1) by decide +kernel) rfl rfl ?_
        refine e_ialdx (n := 40) (show decode (mC 89) 146 = .ok (.iaload, 1) by decide +kernel) (se_ok hG h_a 4 (by decide)) (se_ln hG h_a 4 (by decide)) (by decide) (s15 p1 p2 p3) (s16 p1 p2 p3) ex4 ?_
        refine e_P (st' := [aI (q_or x3 x4), aI ((v3 + (-1)) - 1), aR (a + 4)]) (show decode (mC 89) 147 = .ok (.ior, 1) by decide +kernel) rfl rfl rfl ?_
        refine e_iast (n := 40) (show decode (mC 89) 148 = .ok (.iastore, 1) by decide +kernel) (se_ok hG h_a 4 (by decide)) (se_ln hG h_a 4 (by decide)) (by decide) (s12 p1 p2 p3) (s13 p1 p2 p3) ?_
        refine e_go (t := 174) (show decode (mC 89) 149 = .ok (.goto 25, 3) by decide +kernel) (by decide) ?_
        exact (k18 p1 p2 p3)
  · refine e_L (L' := [some (aR a), some (aR b), some (aI v2), some (aI v3), some (aI v4)]) (st' := [aI v3]) (show decode (mC 89) 84 = .ok (.iload_n 3, 1) by decide +kernel) rfl rfl ?_
    refine e_P (st' := [aI 1, aI v3]) (show decode (mC 89) 85 = .ok (.iconst 1, 1) by decide +kernel) rfl rfl rfl ?_
    refine e_le2 (t := 112) (show decode (mC 89) 86 = .ok (.if_icmp .le 26, 3) by decide +kernel) (by decide) (s19 p1) (by decide) (fun p2 => ?_) (fun p2 => ?_)
    · refine e_L (L' := [some (aR a), some (aR b), some (aI v2), some (aI v3), some (aI v4)]) (st' := [aR a]) (show decode (mC 89) 112 = .ok (.aload_n 0, 1) by decide +kernel) rfl (by show (if a = 0 then none else some (_, _)) = _; rw [if_neg (show ¬ a = 0 from se_ne h_a 0)]) ?_
      refine e_getR (w := (a + 1)) (show decode (mC 89) 113 = .ok (.getfield 11, 3) by decide +kernel) (show pl 9 11 = some (0, 9, 2, 0) by decide +kernel) (by decide) (se_ok hG h_a 0 (by decide)) (se_rf hG h_a 0 (by decide)) ?_
      refine e_L (L' := [some (aR a), some (aR b), some (aI v2), some (aI v3), some (aI v4)]) (st' := [aI v4, aR (a + 1)]) (show decode (mC 89) 116 = .ok (.iload 4, 2) by decide +kernel) rfl rfl ?_
      refine e_ialdx (n := 40) (show decode (mC 89) 118 = .ok (.iaload, 1) by decide +kernel) (se_ok hG h_a 1 (by decide)) (se_ln hG h_a 1 (by decide)) (by decide) s0 s1 ex5 ?_
      refine e_P (st' := [aI 10, aI x5]) (show decode (mC 89) 119 = .ok (.bipush 10, 2) by decide +kernel) rfl rfl rfl ?_
      refine e_ne2 (t := 152) (show decode (mC 89) 121 = .ok (.if_icmp .ne 31, 3) by decide +kernel) (by decide) (s21 p1 p2) (by decide) (fun p3 => ?_) (fun p3 => ?_)
      · refine e_L (L' := [some (aR a), some (aR b), some (aI v2), some (aI v3), some (aI v4)]) (st' := [aI v3]) (show decode (mC 89) 152 = .ok (.iload_n 3, 1) by decide +kernel) rfl rfl ?_
        refine e_P (st' := [aI 40, aI v3]) (show decode (mC 89) 153 = .ok (.bipush 40, 2) by decide +kernel) rfl rfl rfl ?_
        refine e_ge2 (t := 174) (show decode (mC 89) 155 = .ok (.if_icmp .ge 19, 3) by decide +kernel) (by decide) (s19 p1) (by decide) (fun p4 => ?_) (fun p4 => ?_)
        · exact (k22 p1 p2 p3 p4)
        · refine e_L (L' := [some (aR a), some (aR b), some (aI v2), some (aI v3), some (aI v4)]) (st' := [aR a]) (show decode (mC 89) 158 = .ok (.aload_n 0, 1) by decide +kernel) rfl (by show (if a = 0 then none else some (_, _)) = _; rw [if_neg (show ¬ a = 0 from se_ne h_a 0)]) ?_
          refine e_getR (w := (a + 4)) (show decode (mC 89) 159 = .ok (.getfield 21, 3) by decide +kernel) (show pl 9 21 = some (0, 9, 5, 0) by decide +kernel) (by decide) (se_ok hG h_a 0 (by decide)) (se_rf hG h_a 3 (by decide)) ?_
          refine e_L (L' := [some (aR a), some (aR b), some (aI v2), some (aI v3), some (aI v4)]) (st' := [aI v3, aR (a + 4)]) (show decode (mC 89) 162 = .ok (.iload_n 3, 1) by decide +kernel) rfl rfl ?_
          refine e_L (L' := [some (aR a), some (aR b), some (aI v2), some (aI v3), some (aI v4)]) (st' := [aR a, aI v3, aR (a + 4)]) (show decode (mC 89) 163 = .ok (.aload_n 0, 1) by decide +kernel) rfl (by show (if a = 0 then none else some (_, _)) = _; rw [if_neg (show ¬ a = 0 from se_ne h_a 0)]) ?_
          refine e_L (L' := [some (aR a), some (aR b), some (aI v2), some (aI v3), some (aI v4)]) (st' := [aI v4, aR a, aI v3, aR (a + 4)]) (show decode (mC 89) 164 = .ok (.iload 4, 2) by decide +kernel) rfl rfl ?_
          refine e_L (L' := [some (aR a), some (aR b), some (aI v2), some (aI v3), some (aI v4)]) (st' := [aR b, aI v4, aR a, aI v3, aR (a + 4)]) (show decode (mC 89) 166 = .ok (.aload_n 1, 1) by decide +kernel) rfl (by show (if b = 0 then none else some (_, _)) = _; rw [if_neg (show ¬ b = 0 from lf_ne h_b 0)]) ?_
          exact e_V (as := [aR a, aI v4, aR b]) (rest := [aI v3, aR (a + 4)]) (show decode (mC 89) 167 = .ok (.invokevirtual 130, 3) by decide +kernel) (by decide +kernel) (show (decide ((3 : Nat) = mA 90) && decide (90 < q_law)) = true by decide +kernel) rfl (show (2 : Nat) ≤ 8 by decide) (show (3 : Nat) ≤ mL 90 by decide +kernel) rfl (se_ok hG h_a 0 (by decide)) (m23 p1 p2 p3 p4)
      · refine e_L (L' := [some (aR a), some (aR b), some (aI v2), some (aI v3), some (aI v4)]) (st' := [aI v3]) (show decode (mC 89) 124 = .ok (.iload_n 3, 1) by decide +kernel) rfl rfl ?_
        refine e_P (st' := [aI 1, aI v3]) (show decode (mC 89) 125 = .ok (.iconst 1, 1) by decide +kernel) rfl rfl rfl ?_
        refine e_le2 (t := 152) (show decode (mC 89) 126 = .ok (.if_icmp .le 26, 3) by decide +kernel) (by decide) (s19 p1) (by decide) (fun p4 => ?_) (fun p4 => ?_)
        · refine e_L (L' := [some (aR a), some (aR b), some (aI v2), some (aI v3), some (aI v4)]) (st' := [aI v3]) (show decode (mC 89) 152 = .ok (.iload_n 3, 1) by decide +kernel) rfl rfl ?_
          refine e_P (st' := [aI 40, aI v3]) (show decode (mC 89) 153 = .ok (.bipush 40, 2) by decide +kernel) rfl rfl rfl ?_
          refine e_ge2 (t := 174) (show decode (mC 89) 155 = .ok (.if_icmp .ge 19, 3) by decide +kernel) (by decide) (s19 p1) (by decide) (fun p5 => ?_) (fun p5 => ?_)
          · exact (k24 p1 p2 p3 p4 p5)
          · refine e_L (L' := [some (aR a), some (aR b), some (aI v2), some (aI v3), some (aI v4)]) (st' := [aR a]) (show decode (mC 89) 158 = .ok (.aload_n 0, 1) by decide +kernel) rfl (by show (if a = 0 then none else some (_, _)) = _; rw [if_neg (show ¬ a = 0 from se_ne h_a 0)]) ?_
            refine e_getR (w := (a + 4)) (show decode (mC 89) 159 = .ok (.getfield 21, 3) by decide +kernel) (show pl 9 21 = some (0, 9, 5, 0) by decide +kernel) (by decide) (se_ok hG h_a 0 (by decide)) (se_rf hG h_a 3 (by decide)) ?_
            refine e_L (L' := [some (aR a), some (aR b), some (aI v2), some (aI v3), some (aI v4)]) (st' := [aI v3, aR (a + 4)]) (show decode (mC 89) 162 = .ok (.iload_n 3, 1) by decide +kernel) rfl rfl ?_
            refine e_L (L' := [some (aR a), some (aR b), some (aI v2), some (aI v3), some (aI v4)]) (st' := [aR a, aI v3, aR (a + 4)]) (show decode (mC 89) 163 = .ok (.aload_n 0, 1) by decide +kernel) rfl (by show (if a = 0 then none else some (_, _)) = _; rw [if_neg (show ¬ a = 0 from se_ne h_a 0)]) ?_
            refine e_L (L' := [some (aR a), some (aR b), some (aI v2), some (aI v3), some (aI v4)]) (st' := [aI v4, aR a, aI v3, aR (a + 4)]) (show decode (mC 89) 164 = .ok (.iload 4, 2) by decide +kernel) rfl rfl ?_
            refine e_L (L' := [some (aR a), some (aR b), some (aI v2), some (aI v3), some (aI v4)]) (st' := [aR b, aI v4, aR a, aI v3, aR (a + 4)]) (show decode (mC 89) 166 = .ok (.aload_n 1, 1) by decide +kernel) rfl (by show (if b = 0 then none else some (_, _)) = _; rw [if_neg (show ¬ b = 0 from lf_ne h_b 0)]) ?_
            exact e_V (as := [aR a, aI v4, aR b]) (rest := [aI v3, aR (a + 4)]) (show decode (mC 89) 167 = .ok (.invokevirtual 130, 3) by decide +kernel) (by decide +kernel) (show (decide ((3 : Nat) = mA 90) && decide (90 < q_law)) = true by decide +kernel) rfl (show (2 : Nat) ≤ 8 by decide) (show (3 : Nat) ≤ mL 90 by decide +kernel) rfl (se_ok hG h_a 0 (by decide)) (m25 p1 p2 p3 p4 p5)
        · refine e_L (L' := [some (aR a), some (aR b), some (aI v2), some (aI (v3 + (-1))), some (aI v4)]) (st' := []) (show decode (mC 89) 129 = .ok (.iinc 3 (-1), 3) by decide +kernel) rfl rfl ?_
          refine e_L (L' := [some (aR a), some (aR b), some (aI v2), some (aI (v3 + (-1))), some (aI v4)]) (st' := [aR a]) (show decode (mC 89) 132 = .ok (.aload_n 0, 1) by decide +kernel) rfl (by show (if a = 0 then none else some (_, _)) = _; rw [if_neg (show ¬ a = 0 from se_ne h_a 0)]) ?_
          refine e_getR (w := (a + 4)) (show decode (mC 89) 133 = .ok (.getfield 21, 3) by decide +kernel) (show pl 9 21 = some (0, 9, 5, 0) by decide +kernel) (by decide) (se_ok hG h_a 0 (by decide)) (se_rf hG h_a 3 (by decide)) ?_
          refine e_L (L' := [some (aR a), some (aR b), some (aI v2), some (aI (v3 + (-1))), some (aI v4)]) (st' := [aI (v3 + (-1)), aR (a + 4)]) (show decode (mC 89) 136 = .ok (.iload_n 3, 1) by decide +kernel) rfl rfl ?_
          refine e_P (st' := [aI 1, aI (v3 + (-1)), aR (a + 4)]) (show decode (mC 89) 137 = .ok (.iconst 1, 1) by decide +kernel) rfl rfl rfl ?_
          refine e_P (st' := [aI ((v3 + (-1)) - 1), aR (a + 4)]) (show decode (mC 89) 138 = .ok (.isub, 1) by decide +kernel) rfl rfl rfl ?_
          refine e_P (st' := [aI ((v3 + (-1)) - 1), aR (a + 4), aI ((v3 + (-1)) - 1), aR (a + 4)]) (show decode (mC 89) 139 = .ok (.dup2, 1) by decide +kernel) rfl rfl rfl ?_
          refine e_ialdx (n := 40) (show decode (mC 89) 140 = .ok (.iaload, 1) by decide +kernel) (se_ok hG h_a 4 (by decide)) (se_ln hG h_a 4 (by decide)) (by decide) (s26 p1 p2 p3 p4) (s27 p1 p2 p3 p4) ex6 ?_
          refine e_L (L' := [some (aR a), some (aR b), some (aI v2), some (aI (v3 + (-1))), some (aI v4)]) (st' := [aR a, aI x6, aI ((v3 + (-1)) - 1), aR (a + 4)]) (show decode (mC 89) 141 = .ok (.aload_n 0, 1) by decide +kernel) rfl (by show (if a = 0 then none else some (_, _)) = _; rw [if_neg (show ¬ a = 0 from se_ne h_a 0)]) ?_
          refine e_getR (w := (a + 4)) (show decode (mC 89) 142 = .ok (.getfield 21, 3) by decide +kernel) (show pl 9 21 = some (0, 9, 5, 0) by decide +kernel) (by decide) (se_ok hG h_a 0 (by decide)) (se_rf hG h_a 3 (by decide)) ?_
          refine e_L (L' := [some (aR a), some (aR b), some (aI v2), some (aI (v3 + (-1))), some (aI v4)]) (st' := [aI (v3 + (-1)), aR (a + 4), aI x6, aI ((v3 + (-1)) - 1), aR (a + 4)]) (show decode (mC 89) 145 = .ok (.iload_n 3, 1) by decide +kernel) rfl rfl ?_
          refine e_ialdx (n := 40) (show decode (mC 89) 146 = .ok (.iaload, 1) by decide +kernel) (se_ok hG h_a 4 (by decide)) (se_ln hG h_a 4 (by decide)) (by decide) (s29 p1 p2 p3 p4) (s30 p1 p2 p3 p4) ex7 ?_
          refine e_P (st' := [aI (q_or x6 x7), aI ((v3 + (-1)) - 1), aR (a + 4)]) (show decode (mC 89) 147 = .ok (.ior, 1) by decide +kernel) rfl rfl rfl ?_
          refine e_iast (n := 40) (show decode (mC 89) 148 = .ok (.iastore, 1) by decide +kernel) (se_ok hG h_a 4 (by decide)) (se_ln hG h_a 4 (by decide)) (by decide) (s26 p1 p2 p3 p4) (s27 p1 p2 p3 p4) ?_
          refine e_go (t := 174) (show decode (mC 89) 149 = .ok (.goto 25, 3) by decide +kernel) (by decide) ?_
          exact (k32 p1 p2 p3 p4)
    · refine e_L (L' := [some (aR a), some (aR b), some (aI v2), some (aI (v3 + (-1))), some (aI v4)]) (st' := []) (show decode (mC 89) 89 = .ok (.iinc 3 (-1), 3) by decide +kernel) rfl rfl ?_
      refine e_L (L' := [some (aR a), some (aR b), some (aI v2), some (aI (v3 + (-1))), some (aI v4)]) (st' := [aR a]) (show decode (mC 89) 92 = .ok (.aload_n 0, 1) by decide +kernel) rfl (by show (if a = 0 then none else some (_, _)) = _; rw [if_neg (show ¬ a = 0 from se_ne h_a 0)]) ?_
      refine e_getR (w := (a + 4)) (show decode (mC 89) 93 = .ok (.getfield 21, 3) by decide +kernel) (show pl 9 21 = some (0, 9, 5, 0) by decide +kernel) (by decide) (se_ok hG h_a 0 (by decide)) (se_rf hG h_a 3 (by decide)) ?_
      refine e_L (L' := [some (aR a), some (aR b), some (aI v2), some (aI (v3 + (-1))), some (aI v4)]) (st' := [aI (v3 + (-1)), aR (a + 4)]) (show decode (mC 89) 96 = .ok (.iload_n 3, 1) by decide +kernel) rfl rfl ?_
      refine e_P (st' := [aI 1, aI (v3 + (-1)), aR (a + 4)]) (show decode (mC 89) 97 = .ok (.iconst 1, 1) by decide +kernel) rfl rfl rfl ?_
      refine e_P (st' := [aI ((v3 + (-1)) - 1), aR (a + 4)]) (show decode (mC 89) 98 = .ok (.isub, 1) by decide +kernel) rfl rfl rfl ?_
      refine e_P (st' := [aI ((v3 + (-1)) - 1), aR (a + 4), aI ((v3 + (-1)) - 1), aR (a + 4)]) (show decode (mC 89) 99 = .ok (.dup2, 1) by decide +kernel) rfl rfl rfl ?_
      refine e_ialdx (n := 40) (show decode (mC 89) 100 = .ok (.iaload, 1) by decide +kernel) (se_ok hG h_a 4 (by decide)) (se_ln hG h_a 4 (by decide)) (by decide) (s33 p1 p2) (s34 p1 p2) ex8 ?_
      refine e_L (L' := [some (aR a), some (aR b), some (aI v2), some (aI (v3 + (-1))), some (aI v4)]) (st' := [aR a, aI x8, aI ((v3 + (-1)) - 1), aR (a + 4)]) (show decode (mC 89) 101 = .ok (.aload_n 0, 1) by decide +kernel) rfl (by show (if a = 0 then none else some (_, _)) = _; rw [if_neg (show ¬ a = 0 from se_ne h_a 0)]) ?_
      refine e_getR (w := (a + 4)) (show decode (mC 89) 102 = .ok (.getfield 21, 3) by decide +kernel) (show pl 9 21 = some (0, 9, 5, 0) by decide +kernel) (by decide) (se_ok hG h_a 0 (by decide)) (se_rf hG h_a 3 (by decide)) ?_
      refine e_L (L' := [some (aR a), some (aR b), some (aI v2), some (aI (v3 + (-1))), some (aI v4)]) (st' := [aI (v3 + (-1)), aR (a + 4), aI x8, aI ((v3 + (-1)) - 1), aR (a + 4)]) (show decode (mC 89) 105 = .ok (.iload_n 3, 1) by decide +kernel) rfl rfl ?_
      refine e_ialdx (n := 40) (show decode (mC 89) 106 = .ok (.iaload, 1) by decide +kernel) (se_ok hG h_a 4 (by decide)) (se_ln hG h_a 4 (by decide)) (by decide) (s36 p1 p2) (s37 p1 p2) ex9 ?_
      refine e_P (st' := [aI (q_and x8 x9), aI ((v3 + (-1)) - 1), aR (a + 4)]) (show decode (mC 89) 107 = .ok (.iand, 1) by decide +kernel) rfl rfl rfl ?_
      refine e_iast (n := 40) (show decode (mC 89) 108 = .ok (.iastore, 1) by decide +kernel) (se_ok hG h_a 4 (by decide)) (se_ln hG h_a 4 (by decide)) (by decide) (s33 p1 p2) (s34 p1 p2) ?_
      refine e_go (t := 174) (show decode (mC 89) 109 = .ok (.goto 65, 3) by decide +kernel) (by decide) ?_
      exact (k39 p1 p2)
/-- SoulOffice$Sentence.soulsSaid(LSoulOffice$Life;)I, from 170 -/
theorem b89_170 (hG : Shp G) {v2 v3 v4 u1 u2 : Int} {a : Nat} (h_a : Sent a) {b : Nat} (h_b : Life b)
    (s0 : 0 ≤ u1)
    (s1 : u1 < 40)
    (k2 : T (d + 1) 89 174 [some (aR a), some (aR b), some (aI v2), some (aI (v3 + 1)), some (aI v4)] [] (G, (q_up c (a + 4) u1 u2)) Q) :
    T (d + 1) 89 170 [some (aR a), some (aR b), some (aI v2), some (aI v3), some (aI v4)] [aI u2, aI u1, aR (a + 4)] (G, c) Q := by
  refine e_iast (n := 40) (show decode (mC 89) 170 = .ok (.iastore, 1) by decide +kernel) (se_ok hG h_a 4 (by decide)) (se_ln hG h_a 4 (by decide)) (by decide) s0 s1 ?_
  refine e_L (L' := [some (aR a), some (aR b), some (aI v2), some (aI (v3 + 1)), some (aI v4)]) (st' := []) (show decode (mC 89) 171 = .ok (.iinc 3 1, 3) by decide +kernel) rfl rfl ?_
  exact k2
/-- SoulOffice$Sentence.soulsSaid(LSoulOffice$Life;)I, from 174 -/
theorem b89_174 (hG : Shp G) {v2 v3 v4 : Int} {a : Nat} (h_a : Sent a) {b : Nat} (h_b : Life b)
    (k0 : T (d + 1) 89 17 [some (aR a), some (aR b), some (aI v2), some (aI v3), some (aI (v4 + 1))] [] (G, c) Q) :
    T (d + 1) 89 174 [some (aR a), some (aR b), some (aI v2), some (aI v3), some (aI v4)] [] (G, c) Q := by
  refine e_L (L' := [some (aR a), some (aR b), some (aI v2), some (aI v3), some (aI (v4 + 1))]) (st' := []) (show decode (mC 89) 174 = .ok (.iinc 4 1, 3) by decide +kernel) rfl rfl ?_
  refine e_go (t := 17) (show decode (mC 89) 177 = .ok (.goto (-160), 3) by decide +kernel) (by decide) ?_
  exact k0
/-- SoulOffice$Sentence.soulsSaid(LSoulOffice$Life;)I, from 180 -/
theorem b89_180 (hG : Shp G) {x1 : Int} {a : Nat} (h_a : Sent a)
    (ex1 : c (a + 4) 0 = x1)
    (z1 : Q (.inl (some (aI x1))) (G, c)) :
    T (d + 1) 89 180 [some (aR a), none, none, none, none] [] (G, c) Q := by
  refine e_L (L' := [some (aR a), none, none, none, none]) (st' := [aR a]) (show decode (mC 89) 180 = .ok (.aload_n 0, 1) by decide +kernel) rfl (by show (if a = 0 then none else some (_, _)) = _; rw [if_neg (show ¬ a = 0 from se_ne h_a 0)]) ?_
  refine e_getR (w := (a + 4)) (show decode (mC 89) 181 = .ok (.getfield 21, 3) by decide +kernel) (show pl 9 21 = some (0, 9, 5, 0) by decide +kernel) (by decide) (se_ok hG h_a 0 (by decide)) (se_rf hG h_a 3 (by decide)) ?_
  refine e_P (st' := [aI 0, aR (a + 4)]) (show decode (mC 89) 184 = .ok (.iconst 0, 1) by decide +kernel) rfl rfl rfl ?_
  refine e_ialdx (n := 40) (show decode (mC 89) 185 = .ok (.iaload, 1) by decide +kernel) (se_ok hG h_a 4 (by decide)) (se_ln hG h_a 4 (by decide)) (by decide) (by decide) (by decide) ex1 ?_
  exact e_iret (show decode (mC 89) 186 = .ok (.ireturn, 1) by decide +kernel) rfl z1
/-- SoulOffice$Sentence.soulsByStep(ILSoulOffice$Life;)I, from 0 -/
theorem b90_0 (hG : Shp G) {v1 : Int} {a : Nat} (h_a : Sent a) {b : Nat} (h_b : Life b)
    (k0 : T (d + 1) 90 5 [some (aR a), some (aI v1), some (aR b), some (aI 0), some (aI 0)] [] (G, c) Q) :
    T (d + 1) 90 0 [some (aR a), some (aI v1), some (aR b), none, none] [] (G, c) Q := by
  refine e_P (st' := [aI 0]) (show decode (mC 90) 0 = .ok (.iconst 0, 1) by decide +kernel) rfl rfl rfl ?_
  refine e_L (L' := [some (aR a), some (aI v1), some (aR b), some (aI 0), none]) (st' := []) (show decode (mC 90) 1 = .ok (.istore_n 3, 1) by decide +kernel) rfl rfl ?_
  refine e_P (st' := [aI 0]) (show decode (mC 90) 2 = .ok (.iconst 0, 1) by decide +kernel) rfl rfl rfl ?_
  refine e_L (L' := [some (aR a), some (aI v1), some (aR b), some (aI 0), some (aI 0)]) (st' := []) (show decode (mC 90) 3 = .ok (.istore 4, 2) by decide +kernel) rfl rfl ?_
  exact k0
/-- SoulOffice$Sentence.soulsByStep(ILSoulOffice$Life;)I, from 5 -/
theorem b90_5 (hG : Shp G) {v1 v3 v4 x1 : Int} {a : Nat} (h_a : Sent a) {b : Nat} (h_b : Life b)
    (ex1 : c 9 1 = x1)
    (s1 : -2147483648 ≤ v4 ∧ v4 < 2147483648)
    (s2 : -2147483648 ≤ x1 ∧ x1 < 2147483648)
    (z3 : (x1 ≤ v4) → Q (.inl (some (aI v3))) (G, c))
    (m4 : (v4 < x1) → TM d 91 [aR a, aI v1, aR b, aI v4] (G, c) (fun r h' => T (d + 1) 90 25 [some (aR a), some (aI v1), some (aR b), some (aI v3), some (aI v4)] (r.toList ++ []) h' Q)) :
    T (d + 1) 90 5 [some (aR a), some (aI v1), some (aR b), some (aI v3), some (aI v4)] [] (G, c) Q := by
  refine e_L (L' := [some (aR a), some (aI v1), some (aR b), some (aI v3), some (aI v4)]) (st' := [aI v4]) (show decode (mC 90) 5 = .ok (.iload 4, 2) by decide +kernel) rfl rfl ?_
  refine e_L (L' := [some (aR a), some (aI v1), some (aR b), some (aI v3), some (aI v4)]) (st' := [aR a, aI v4]) (show decode (mC 90) 7 = .ok (.aload_n 0, 1) by decide +kernel) rfl (by show (if a = 0 then none else some (_, _)) = _; rw [if_neg (show ¬ a = 0 from se_ne h_a 0)]) ?_
  refine e_getR (w := 9) (show decode (mC 90) 8 = .ok (.getfield 28, 3) by decide +kernel) (show pl 9 28 = some (0, 9, 1, 0) by decide +kernel) (by decide) (se_ok hG h_a 0 (by decide)) (se_r1 hG h_a) ?_
  refine e_getIx (show decode (mC 90) 11 = .ok (.getfield 116, 3) by decide +kernel) (show pl 9 116 = some (0, 8, 1, 0) by decide +kernel) (by decide) (sh_ok hG (by decide +kernel)) ex1 ?_
  refine e_ge2 (t := 41) (show decode (mC 90) 14 = .ok (.if_icmp .ge 27, 3) by decide +kernel) (by decide) s1 s2 (fun p1 => ?_) (fun p1 => ?_)
  · refine e_L (L' := [some (aR a), some (aI v1), some (aR b), some (aI v3), some (aI v4)]) (st' := [aI v3]) (show decode (mC 90) 41 = .ok (.iload_n 3, 1) by decide +kernel) rfl rfl ?_
    exact e_iret (show decode (mC 90) 42 = .ok (.ireturn, 1) by decide +kernel) rfl (z3 p1)
  · refine e_L (L' := [some (aR a), some (aI v1), some (aR b), some (aI v3), some (aI v4)]) (st' := [aR a]) (show decode (mC 90) 17 = .ok (.aload_n 0, 1) by decide +kernel) rfl (by show (if a = 0 then none else some (_, _)) = _; rw [if_neg (show ¬ a = 0 from se_ne h_a 0)]) ?_
    refine e_L (L' := [some (aR a), some (aI v1), some (aR b), some (aI v3), some (aI v4)]) (st' := [aI v1, aR a]) (show decode (mC 90) 18 = .ok (.iload_n 1, 1) by decide +kernel) rfl rfl ?_
    refine e_L (L' := [some (aR a), some (aI v1), some (aR b), some (aI v3), some (aI v4)]) (st' := [aR b, aI v1, aR a]) (show decode (mC 90) 19 = .ok (.aload_n 2, 1) by decide +kernel) rfl (by show (if b = 0 then none else some (_, _)) = _; rw [if_neg (show ¬ b = 0 from lf_ne h_b 0)]) ?_
    refine e_L (L' := [some (aR a), some (aI v1), some (aR b), some (aI v3), some (aI v4)]) (st' := [aI v4, aR b, aI v1, aR a]) (show decode (mC 90) 20 = .ok (.iload 4, 2) by decide +kernel) rfl rfl ?_
    exact e_V (as := [aR a, aI v1, aR b, aI v4]) (rest := []) (show decode (mC 90) 22 = .ok (.invokevirtual 134, 3) by decide +kernel) (by decide +kernel) (show (decide ((4 : Nat) = mA 91) && decide (91 < q_law)) = true by decide +kernel) rfl (show (0 : Nat) ≤ 8 by decide) (show (4 : Nat) ≤ mL 91 by decide +kernel) rfl (se_ok hG h_a 0 (by decide)) (m4 p1)
/-- SoulOffice$Sentence.soulsByStep(ILSoulOffice$Life;)I, from 25 -/
theorem b90_25 (hG : Shp G) {v1 v3 v4 u0 : Int} {a : Nat} (h_a : Sent a) {b : Nat} (h_b : Life b)
    (s0 : -2147483648 ≤ u0 ∧ u0 < 2147483648)
    (k1 : (u0 = 0) → T (d + 1) 90 5 [some (aR a), some (aI v1), some (aR b), some (aI v3), some (aI (v4 + 1))] [] (G, c) Q)
    (k2 : (¬ u0 = 0) → T (d + 1) 90 5 [some (aR a), some (aI v1), some (aR b), some (aI (q_or v3 (q_shl 1 v4))), some (aI (v4 + 1))] [] (G, c) Q) :
    T (d + 1) 90 25 [some (aR a), some (aI v1), some (aR b), some (aI v3), some (aI v4)] [aI u0] (G, c) Q := by
  refine e_eq1 (t := 35) (show decode (mC 90) 25 = .ok (.ifCond .eq 10, 3) by decide +kernel) (by decide) s0 (fun p1 => ?_) (fun p1 => ?_)
  · refine e_L (L' := [some (aR a), some (aI v1), some (aR b), some (aI v3), some (aI (v4 + 1))]) (st' := []) (show decode (mC 90) 35 = .ok (.iinc 4 1, 3) by decide +kernel) rfl rfl ?_
    refine e_go (t := 5) (show decode (mC 90) 38 = .ok (.goto (-33), 3) by decide +kernel) (by decide) ?_
    exact (k1 p1)
  · refine e_L (L' := [some (aR a), some (aI v1), some (aR b), some (aI v3), some (aI v4)]) (st' := [aI v3]) (show decode (mC 90) 28 = .ok (.iload_n 3, 1) by decide +kernel) rfl rfl ?_
    refine e_P (st' := [aI 1, aI v3]) (show decode (mC 90) 29 = .ok (.iconst 1, 1) by decide +kernel) rfl rfl rfl ?_
    refine e_L (L' := [some (aR a), some (aI v1), some (aR b), some (aI v3), some (aI v4)]) (st' := [aI v4, aI 1, aI v3]) (show decode (mC 90) 30 = .ok (.iload 4, 2) by decide +kernel) rfl rfl ?_
    refine e_P (st' := [aI (q_shl 1 v4), aI v3]) (show decode (mC 90) 32 = .ok (.ishl, 1) by decide +kernel) rfl rfl rfl ?_
    refine e_P (st' := [aI (q_or v3 (q_shl 1 v4))]) (show decode (mC 90) 33 = .ok (.ior, 1) by decide +kernel) rfl rfl rfl ?_
    refine e_L (L' := [some (aR a), some (aI v1), some (aR b), some (aI (q_or v3 (q_shl 1 v4))), some (aI v4)]) (st' := []) (show decode (mC 90) 34 = .ok (.istore_n 3, 1) by decide +kernel) rfl rfl ?_
    refine e_L (L' := [some (aR a), some (aI v1), some (aR b), some (aI (q_or v3 (q_shl 1 v4))), some (aI (v4 + 1))]) (st' := []) (show decode (mC 90) 35 = .ok (.iinc 4 1, 3) by decide +kernel) rfl rfl ?_
    refine e_go (t := 5) (show decode (mC 90) 38 = .ok (.goto (-33), 3) by decide +kernel) (by decide) ?_
    exact (k2 p1)
/-- SoulOffice$Sentence.holds(ILSoulOffice$Life;I)Z, from 0 -/
theorem b91_0 (hG : Shp G) {v1 v3 x1 x2 x3 x4 x5 x6 x7 : Int} {a : Nat} (h_a : Sent a) {b : Nat} (h_b : Life b) (hQ : ∀ o o' h', q_eqo o o' → Q o h' → Q o' h')
    (s0 : 0 ≤ v1)
    (s1 : v1 < 40)
    (ex1 : c (a + 1) v1 = x1)
    (s3 : -2147483648 ≤ x1 ∧ x1 < 2147483648)
    (z4 : (x1 < 7 ∨ 19 < x1) → Q (.inl (some (aI 0))) (G, c))
    (s5 : (x1 = 7) → 0 ≤ v3)
    (s6 : (x1 = 7) → v3 < 8)
    (ex2 : c (b + 1) v3 = x2)
    (ex3 : c (a + 3) v1 = x3)
    (s9 : (x1 = 7) → -2147483648 ≤ x2 ∧ x2 < 2147483648)
    (s10 : (x1 = 7) → -2147483648 ≤ x3 ∧ x3 < 2147483648)
    (z11 : (x1 = 7) → (¬ x2 = x3) → Q (.inl (some (aI 0))) (G, c))
    (z12 : (x1 = 7) → (x2 = x3) → Q (.inl (some (aI 1))) (G, c))
    (z13 : (x1 = 8) → Q (.inl (some (aI 0))) (G, c))
    (z14 : (x1 = 9) → Q (.inl (some (aI 0))) (G, c))
    (z15 : (x1 = 10) → Q (.inl (some (aI 0))) (G, c))
    (z16 : (x1 = 11) → Q (.inl (some (aI 0))) (G, c))
    (z17 : (x1 = 12) → Q (.inl (some (aI 0))) (G, c))
    (s18 : (x1 = 13) → 0 ≤ v3)
    (s19 : (x1 = 13) → v3 < 8)
    (ex4 : c (b + 1) v3 = x4)
    (s21 : (x1 = 13) → -2147483648 ≤ x4 ∧ x4 < 2147483648)
    (z22 : (x1 = 13) → (¬ x4 = (-1)) → Q (.inl (some (aI 0))) (G, c))
    (z23 : (x1 = 13) → (x4 = (-1)) → Q (.inl (some (aI 1))) (G, c))
    (ex5 : c (a + 3) v1 = x5)
    (m25 : (x1 = 14) → TM d 151 [aI v3, aI x5] (G, c) (fun r h' => T (d + 1) 91 123 [none, none, none, none] (r.toList ++ [aR (b + 6)]) h' Q))
    (m26 : (x1 = 15) → TM d 22 [aR b, aI v3] (G, c) (fun r h' => T (d + 1) 91 139 [none, some (aI v1), none, none] (r.toList ++ [aR a]) h' Q))
    (m27 : (x1 = 16) → TM d 23 [aR b, aI v3] (G, c) (fun r h' => T (d + 1) 91 150 [none, some (aI v1), none, none] (r.toList ++ [aR a]) h' Q))
    (s28 : (x1 = 17) → 0 ≤ v3)
    (s29 : (x1 = 17) → v3 < 8)
    (ex6 : c (b + 3) v3 = x6)
    (m31 : (x1 = 17) → TM d 92 [aR a, aI x6, aI v1] (G, c) (fun r h' => T (d + 1) 91 166 [none, none, none, none] (r.toList ++ []) h' Q))
    (s32 : (x1 = 18) → 0 ≤ v3)
    (s33 : (x1 = 18) → v3 < 8)
    (ex7 : c (b + 2) v3 = x7)
    (m35 : (x1 = 18) → TM d 92 [aR a, aI x7, aI v1] (G, c) (fun r h' => T (d + 1) 91 178 [none, none, none, none] (r.toList ++ []) h' Q))
    (m36 : (x1 = 19) → TM d 92 [aR a, aI v3, aI v1] (G, c) (fun r h' => T (d + 1) 91 185 [none, none, none, none] (r.toList ++ []) h' Q)) :
    T (d + 1) 91 0 [some (aR a), some (aI v1), some (aR b), some (aI v3)] [] (G, c) Q := by
  refine e_L (L' := [some (aR a), some (aI v1), some (aR b), some (aI v3)]) (st' := [aR a]) (show decode (mC 91) 0 = .ok (.aload_n 0, 1) by decide +kernel) rfl (by show (if a = 0 then none else some (_, _)) = _; rw [if_neg (show ¬ a = 0 from se_ne h_a 0)]) ?_
  refine e_getR (w := (a + 1)) (show decode (mC 91) 1 = .ok (.getfield 11, 3) by decide +kernel) (show pl 9 11 = some (0, 9, 2, 0) by decide +kernel) (by decide) (se_ok hG h_a 0 (by decide)) (se_rf hG h_a 0 (by decide)) ?_
  refine e_L (L' := [some (aR a), some (aI v1), some (aR b), some (aI v3)]) (st' := [aI v1, aR (a + 1)]) (show decode (mC 91) 4 = .ok (.iload_n 1, 1) by decide +kernel) rfl rfl ?_
  refine e_ialdx (n := 40) (show decode (mC 91) 5 = .ok (.iaload, 1) by decide +kernel) (se_ok hG h_a 1 (by decide)) (se_ln hG h_a 1 (by decide)) (by decide) s0 s1 ex1 ?_
  rcases (show (x1 < 7 ∨ 19 < x1) ∨ x1 = 7 ∨ x1 = 8 ∨ x1 = 9 ∨ x1 = 10 ∨ x1 = 11 ∨ x1 = 12 ∨ x1 = 13 ∨ x1 = 14 ∨ x1 = 15 ∨ x1 = 16 ∨ x1 = 17 ∨ x1 = 18 ∨ x1 = 19 by omega) with p1 | p1 | p1 | p1 | p1 | p1 | p1 | p1 | p1 | p1 | p1 | p1 | p1 | p1
  · refine e_swd (t := 186) (show decode (mC 91) 6 = .ok (.tableswitch 180 7 19 #[82, 180, 180, 180, 180, 180, 66, 103, 127, 138, 149, 161, 173], 66) by decide +kernel) s3 p1 (by decide) ?_
    refine e_P (st' := [aI 0]) (show decode (mC 91) 186 = .ok (.iconst 0, 1) by decide +kernel) rfl rfl rfl ?_
    exact e_zret (show decode (mC 91) 187 = .ok (.ireturn, 1) by decide +kernel) rfl (by decide) (z4 p1)
  · refine e_swj (off := 82) (t := 88) 7 (show decode (mC 91) 6 = .ok (.tableswitch 180 7 19 #[82, 180, 180, 180, 180, 180, 66, 103, 127, 138, 149, 161, 173], 66) by decide +kernel) p1 (by decide +kernel) ?_
    refine e_L (L' := [some (aR a), some (aI v1), some (aR b), some (aI v3)]) (st' := [aR b]) (show decode (mC 91) 88 = .ok (.aload_n 2, 1) by decide +kernel) rfl (by show (if b = 0 then none else some (_, _)) = _; rw [if_neg (show ¬ b = 0 from lf_ne h_b 0)]) ?_
    refine e_getR (w := (b + 1)) (show decode (mC 91) 89 = .ok (.getfield 138, 3) by decide +kernel) (show pl 9 138 = some (0, 4, 4, 0) by decide +kernel) (by decide) (lf_ok hG h_b 0 (by decide)) (lf_rf hG h_b 0 (by decide)) ?_
    refine e_L (L' := [some (aR a), some (aI v1), some (aR b), some (aI v3)]) (st' := [aI v3, aR (b + 1)]) (show decode (mC 91) 92 = .ok (.iload_n 3, 1) by decide +kernel) rfl rfl ?_
    refine e_ialdx (n := 8) (show decode (mC 91) 93 = .ok (.iaload, 1) by decide +kernel) (lf_ok hG h_b 1 (by decide)) (lf_ln hG h_b 1 (by decide)) (by decide) (s5 p1) (s6 p1) ex2 ?_
    refine e_L (L' := [some (aR a), some (aI v1), some (aR b), some (aI v3)]) (st' := [aR a, aI x2]) (show decode (mC 91) 94 = .ok (.aload_n 0, 1) by decide +kernel) rfl (by show (if a = 0 then none else some (_, _)) = _; rw [if_neg (show ¬ a = 0 from se_ne h_a 0)]) ?_
    refine e_getR (w := (a + 3)) (show decode (mC 91) 95 = .ok (.getfield 18, 3) by decide +kernel) (show pl 9 18 = some (0, 9, 4, 0) by decide +kernel) (by decide) (se_ok hG h_a 0 (by decide)) (se_rf hG h_a 2 (by decide)) ?_
    refine e_L (L' := [some (aR a), some (aI v1), some (aR b), some (aI v3)]) (st' := [aI v1, aR (a + 3), aI x2]) (show decode (mC 91) 98 = .ok (.iload_n 1, 1) by decide +kernel) rfl rfl ?_
    refine e_ialdx (n := 40) (show decode (mC 91) 99 = .ok (.iaload, 1) by decide +kernel) (se_ok hG h_a 3 (by decide)) (se_ln hG h_a 3 (by decide)) (by decide) s0 s1 ex3 ?_
    refine e_ne2 (t := 107) (show decode (mC 91) 100 = .ok (.if_icmp .ne 7, 3) by decide +kernel) (by decide) (s9 p1) (s10 p1) (fun p2 => ?_) (fun p2 => ?_)
    · refine e_P (st' := [aI 0]) (show decode (mC 91) 107 = .ok (.iconst 0, 1) by decide +kernel) rfl rfl rfl ?_
      exact e_zret (show decode (mC 91) 108 = .ok (.ireturn, 1) by decide +kernel) rfl (by decide) (z11 p1 p2)
    · refine e_P (st' := [aI 1]) (show decode (mC 91) 103 = .ok (.iconst 1, 1) by decide +kernel) rfl rfl rfl ?_
      refine e_go (t := 108) (show decode (mC 91) 104 = .ok (.goto 4, 3) by decide +kernel) (by decide) ?_
      exact e_zret (show decode (mC 91) 108 = .ok (.ireturn, 1) by decide +kernel) rfl (by decide) (z12 p1 p2)
  · refine e_swj (off := 180) (t := 186) 8 (show decode (mC 91) 6 = .ok (.tableswitch 180 7 19 #[82, 180, 180, 180, 180, 180, 66, 103, 127, 138, 149, 161, 173], 66) by decide +kernel) p1 (by decide +kernel) ?_
    refine e_P (st' := [aI 0]) (show decode (mC 91) 186 = .ok (.iconst 0, 1) by decide +kernel) rfl rfl rfl ?_
    exact e_zret (show decode (mC 91) 187 = .ok (.ireturn, 1) by decide +kernel) rfl (by decide) (z13 p1)
  · refine e_swj (off := 180) (t := 186) 9 (show decode (mC 91) 6 = .ok (.tableswitch 180 7 19 #[82, 180, 180, 180, 180, 180, 66, 103, 127, 138, 149, 161, 173], 66) by decide +kernel) p1 (by decide +kernel) ?_
    refine e_P (st' := [aI 0]) (show decode (mC 91) 186 = .ok (.iconst 0, 1) by decide +kernel) rfl rfl rfl ?_
    exact e_zret (show decode (mC 91) 187 = .ok (.ireturn, 1) by decide +kernel) rfl (by decide) (z14 p1)
  · refine e_swj (off := 180) (t := 186) 10 (show decode (mC 91) 6 = .ok (.tableswitch 180 7 19 #[82, 180, 180, 180, 180, 180, 66, 103, 127, 138, 149, 161, 173], 66) by decide +kernel) p1 (by decide +kernel) ?_
    refine e_P (st' := [aI 0]) (show decode (mC 91) 186 = .ok (.iconst 0, 1) by decide +kernel) rfl rfl rfl ?_
    exact e_zret (show decode (mC 91) 187 = .ok (.ireturn, 1) by decide +kernel) rfl (by decide) (z15 p1)
  · refine e_swj (off := 180) (t := 186) 11 (show decode (mC 91) 6 = .ok (.tableswitch 180 7 19 #[82, 180, 180, 180, 180, 180, 66, 103, 127, 138, 149, 161, 173], 66) by decide +kernel) p1 (by decide +kernel) ?_
    refine e_P (st' := [aI 0]) (show decode (mC 91) 186 = .ok (.iconst 0, 1) by decide +kernel) rfl rfl rfl ?_
    exact e_zret (show decode (mC 91) 187 = .ok (.ireturn, 1) by decide +kernel) rfl (by decide) (z16 p1)
  · refine e_swj (off := 180) (t := 186) 12 (show decode (mC 91) 6 = .ok (.tableswitch 180 7 19 #[82, 180, 180, 180, 180, 180, 66, 103, 127, 138, 149, 161, 173], 66) by decide +kernel) p1 (by decide +kernel) ?_
    refine e_P (st' := [aI 0]) (show decode (mC 91) 186 = .ok (.iconst 0, 1) by decide +kernel) rfl rfl rfl ?_
    exact e_zret (show decode (mC 91) 187 = .ok (.ireturn, 1) by decide +kernel) rfl (by decide) (z17 p1)
  · refine e_swj (off := 66) (t := 72) 13 (show decode (mC 91) 6 = .ok (.tableswitch 180 7 19 #[82, 180, 180, 180, 180, 180, 66, 103, 127, 138, 149, 161, 173], 66) by decide +kernel) p1 (by decide +kernel) ?_
    refine e_L (L' := [some (aR a), some (aI v1), some (aR b), some (aI v3)]) (st' := [aR b]) (show decode (mC 91) 72 = .ok (.aload_n 2, 1) by decide +kernel) rfl (by show (if b = 0 then none else some (_, _)) = _; rw [if_neg (show ¬ b = 0 from lf_ne h_b 0)]) ?_
    refine e_getR (w := (b + 1)) (show decode (mC 91) 73 = .ok (.getfield 138, 3) by decide +kernel) (show pl 9 138 = some (0, 4, 4, 0) by decide +kernel) (by decide) (lf_ok hG h_b 0 (by decide)) (lf_rf hG h_b 0 (by decide)) ?_
    refine e_L (L' := [some (aR a), some (aI v1), some (aR b), some (aI v3)]) (st' := [aI v3, aR (b + 1)]) (show decode (mC 91) 76 = .ok (.iload_n 3, 1) by decide +kernel) rfl rfl ?_
    refine e_ialdx (n := 8) (show decode (mC 91) 77 = .ok (.iaload, 1) by decide +kernel) (lf_ok hG h_b 1 (by decide)) (lf_ln hG h_b 1 (by decide)) (by decide) (s18 p1) (s19 p1) ex4 ?_
    refine e_P (st' := [aI (-1), aI x4]) (show decode (mC 91) 78 = .ok (.iconst (-1), 1) by decide +kernel) rfl rfl rfl ?_
    refine e_ne2 (t := 86) (show decode (mC 91) 79 = .ok (.if_icmp .ne 7, 3) by decide +kernel) (by decide) (s21 p1) (by decide) (fun p2 => ?_) (fun p2 => ?_)
    · refine e_P (st' := [aI 0]) (show decode (mC 91) 86 = .ok (.iconst 0, 1) by decide +kernel) rfl rfl rfl ?_
      exact e_zret (show decode (mC 91) 87 = .ok (.ireturn, 1) by decide +kernel) rfl (by decide) (z22 p1 p2)
    · refine e_P (st' := [aI 1]) (show decode (mC 91) 82 = .ok (.iconst 1, 1) by decide +kernel) rfl rfl rfl ?_
      refine e_go (t := 87) (show decode (mC 91) 83 = .ok (.goto 4, 3) by decide +kernel) (by decide) ?_
      exact e_zret (show decode (mC 91) 87 = .ok (.ireturn, 1) by decide +kernel) rfl (by decide) (z23 p1 p2)
  · refine e_swj (off := 103) (t := 109) 14 (show decode (mC 91) 6 = .ok (.tableswitch 180 7 19 #[82, 180, 180, 180, 180, 180, 66, 103, 127, 138, 149, 161, 173], 66) by decide +kernel) p1 (by decide +kernel) ?_
    refine e_L (L' := [some (aR a), some (aI v1), some (aR b), some (aI v3)]) (st' := [aR b]) (show decode (mC 91) 109 = .ok (.aload_n 2, 1) by decide +kernel) rfl (by show (if b = 0 then none else some (_, _)) = _; rw [if_neg (show ¬ b = 0 from lf_ne h_b 0)]) ?_
    refine e_getR (w := (b + 6)) (show decode (mC 91) 110 = .ok (.getfield 143, 3) by decide +kernel) (show pl 9 143 = some (0, 4, 9, 0) by decide +kernel) (by decide) (lf_ok hG h_b 0 (by decide)) (lf_rf hG h_b 5 (by decide)) ?_
    refine e_L (L' := [some (aR a), some (aI v1), some (aR b), some (aI v3)]) (st' := [aI v3, aR (b + 6)]) (show decode (mC 91) 113 = .ok (.iload_n 3, 1) by decide +kernel) rfl rfl ?_
    refine e_L (L' := [some (aR a), some (aI v1), some (aR b), some (aI v3)]) (st' := [aR a, aI v3, aR (b + 6)]) (show decode (mC 91) 114 = .ok (.aload_n 0, 1) by decide +kernel) rfl (by show (if a = 0 then none else some (_, _)) = _; rw [if_neg (show ¬ a = 0 from se_ne h_a 0)]) ?_
    refine e_getR (w := (a + 3)) (show decode (mC 91) 115 = .ok (.getfield 18, 3) by decide +kernel) (show pl 9 18 = some (0, 9, 4, 0) by decide +kernel) (by decide) (se_ok hG h_a 0 (by decide)) (se_rf hG h_a 2 (by decide)) ?_
    refine e_L (L' := [some (aR a), some (aI v1), some (aR b), some (aI v3)]) (st' := [aI v1, aR (a + 3), aI v3, aR (b + 6)]) (show decode (mC 91) 118 = .ok (.iload_n 1, 1) by decide +kernel) rfl rfl ?_
    refine e_ialdx (n := 40) (show decode (mC 91) 119 = .ok (.iaload, 1) by decide +kernel) (se_ok hG h_a 3 (by decide)) (se_ln hG h_a 3 (by decide)) (by decide) s0 s1 ex5 ?_
    exact e_S (as := [aI v3, aI x5]) (rest := [aR (b + 6)]) (show decode (mC 91) 120 = .ok (.invokestatic 146, 3) by decide +kernel) (by decide +kernel) (show (decide ((2 : Nat) = mA 151) && decide (151 < q_law)) = true by decide +kernel) rfl (show (1 : Nat) ≤ 8 by decide) (show (2 : Nat) ≤ mL 151 by decide +kernel) (tm_le hQ (leN (leN (leN (leN leE)))) (m25 p1))
  · refine e_swj (off := 127) (t := 133) 15 (show decode (mC 91) 6 = .ok (.tableswitch 180 7 19 #[82, 180, 180, 180, 180, 180, 66, 103, 127, 138, 149, 161, 173], 66) by decide +kernel) p1 (by decide +kernel) ?_
    refine e_L (L' := [some (aR a), some (aI v1), some (aR b), some (aI v3)]) (st' := [aR a]) (show decode (mC 91) 133 = .ok (.aload_n 0, 1) by decide +kernel) rfl (by show (if a = 0 then none else some (_, _)) = _; rw [if_neg (show ¬ a = 0 from se_ne h_a 0)]) ?_
    refine e_L (L' := [some (aR a), some (aI v1), some (aR b), some (aI v3)]) (st' := [aR b, aR a]) (show decode (mC 91) 134 = .ok (.aload_n 2, 1) by decide +kernel) rfl (by show (if b = 0 then none else some (_, _)) = _; rw [if_neg (show ¬ b = 0 from lf_ne h_b 0)]) ?_
    refine e_L (L' := [some (aR a), some (aI v1), some (aR b), some (aI v3)]) (st' := [aI v3, aR b, aR a]) (show decode (mC 91) 135 = .ok (.iload_n 3, 1) by decide +kernel) rfl rfl ?_
    exact e_V (as := [aR b, aI v3]) (rest := [aR a]) (show decode (mC 91) 136 = .ok (.invokevirtual 149, 3) by decide +kernel) (by decide +kernel) (show (decide ((2 : Nat) = mA 22) && decide (22 < q_law)) = true by decide +kernel) rfl (show (1 : Nat) ≤ 8 by decide) (show (2 : Nat) ≤ mL 22 by decide +kernel) rfl (lf_ok hG h_b 0 (by decide)) (tm_le hQ (leN (leS (leN (leN leE)))) (m26 p1))
  · refine e_swj (off := 138) (t := 144) 16 (show decode (mC 91) 6 = .ok (.tableswitch 180 7 19 #[82, 180, 180, 180, 180, 180, 66, 103, 127, 138, 149, 161, 173], 66) by decide +kernel) p1 (by decide +kernel) ?_
    refine e_L (L' := [some (aR a), some (aI v1), some (aR b), some (aI v3)]) (st' := [aR a]) (show decode (mC 91) 144 = .ok (.aload_n 0, 1) by decide +kernel) rfl (by show (if a = 0 then none else some (_, _)) = _; rw [if_neg (show ¬ a = 0 from se_ne h_a 0)]) ?_
    refine e_L (L' := [some (aR a), some (aI v1), some (aR b), some (aI v3)]) (st' := [aR b, aR a]) (show decode (mC 91) 145 = .ok (.aload_n 2, 1) by decide +kernel) rfl (by show (if b = 0 then none else some (_, _)) = _; rw [if_neg (show ¬ b = 0 from lf_ne h_b 0)]) ?_
    refine e_L (L' := [some (aR a), some (aI v1), some (aR b), some (aI v3)]) (st' := [aI v3, aR b, aR a]) (show decode (mC 91) 146 = .ok (.iload_n 3, 1) by decide +kernel) rfl rfl ?_
    exact e_V (as := [aR b, aI v3]) (rest := [aR a]) (show decode (mC 91) 147 = .ok (.invokevirtual 157, 3) by decide +kernel) (by decide +kernel) (show (decide ((2 : Nat) = mA 23) && decide (23 < q_law)) = true by decide +kernel) rfl (show (1 : Nat) ≤ 8 by decide) (show (2 : Nat) ≤ mL 23 by decide +kernel) rfl (lf_ok hG h_b 0 (by decide)) (tm_le hQ (leN (leS (leN (leN leE)))) (m27 p1))
  · refine e_swj (off := 149) (t := 155) 17 (show decode (mC 91) 6 = .ok (.tableswitch 180 7 19 #[82, 180, 180, 180, 180, 180, 66, 103, 127, 138, 149, 161, 173], 66) by decide +kernel) p1 (by decide +kernel) ?_
    refine e_L (L' := [some (aR a), some (aI v1), some (aR b), some (aI v3)]) (st' := [aR a]) (show decode (mC 91) 155 = .ok (.aload_n 0, 1) by decide +kernel) rfl (by show (if a = 0 then none else some (_, _)) = _; rw [if_neg (show ¬ a = 0 from se_ne h_a 0)]) ?_
    refine e_L (L' := [some (aR a), some (aI v1), some (aR b), some (aI v3)]) (st' := [aR b, aR a]) (show decode (mC 91) 156 = .ok (.aload_n 2, 1) by decide +kernel) rfl (by show (if b = 0 then none else some (_, _)) = _; rw [if_neg (show ¬ b = 0 from lf_ne h_b 0)]) ?_
    refine e_getR (w := (b + 3)) (show decode (mC 91) 157 = .ok (.getfield 160, 3) by decide +kernel) (show pl 9 160 = some (0, 4, 6, 0) by decide +kernel) (by decide) (lf_ok hG h_b 0 (by decide)) (lf_rf hG h_b 2 (by decide)) ?_
    refine e_L (L' := [some (aR a), some (aI v1), some (aR b), some (aI v3)]) (st' := [aI v3, aR (b + 3), aR a]) (show decode (mC 91) 160 = .ok (.iload_n 3, 1) by decide +kernel) rfl rfl ?_
    refine e_ialdx (n := 8) (show decode (mC 91) 161 = .ok (.iaload, 1) by decide +kernel) (lf_ok hG h_b 3 (by decide)) (lf_ln hG h_b 3 (by decide)) (by decide) (s28 p1) (s29 p1) ex6 ?_
    refine e_L (L' := [some (aR a), some (aI v1), some (aR b), some (aI v3)]) (st' := [aI v1, aI x6, aR a]) (show decode (mC 91) 162 = .ok (.iload_n 1, 1) by decide +kernel) rfl rfl ?_
    exact e_V (as := [aR a, aI x6, aI v1]) (rest := []) (show decode (mC 91) 163 = .ok (.invokevirtual 153, 3) by decide +kernel) (by decide +kernel) (show (decide ((3 : Nat) = mA 92) && decide (92 < q_law)) = true by decide +kernel) rfl (show (0 : Nat) ≤ 8 by decide) (show (3 : Nat) ≤ mL 92 by decide +kernel) rfl (se_ok hG h_a 0 (by decide)) (tm_le hQ (leN (leN (leN (leN leE)))) (m31 p1))
  · refine e_swj (off := 161) (t := 167) 18 (show decode (mC 91) 6 = .ok (.tableswitch 180 7 19 #[82, 180, 180, 180, 180, 180, 66, 103, 127, 138, 149, 161, 173], 66) by decide +kernel) p1 (by decide +kernel) ?_
    refine e_L (L' := [some (aR a), some (aI v1), some (aR b), some (aI v3)]) (st' := [aR a]) (show decode (mC 91) 167 = .ok (.aload_n 0, 1) by decide +kernel) rfl (by show (if a = 0 then none else some (_, _)) = _; rw [if_neg (show ¬ a = 0 from se_ne h_a 0)]) ?_
    refine e_L (L' := [some (aR a), some (aI v1), some (aR b), some (aI v3)]) (st' := [aR b, aR a]) (show decode (mC 91) 168 = .ok (.aload_n 2, 1) by decide +kernel) rfl (by show (if b = 0 then none else some (_, _)) = _; rw [if_neg (show ¬ b = 0 from lf_ne h_b 0)]) ?_
    refine e_getR (w := (b + 2)) (show decode (mC 91) 169 = .ok (.getfield 163, 3) by decide +kernel) (show pl 9 163 = some (0, 4, 5, 0) by decide +kernel) (by decide) (lf_ok hG h_b 0 (by decide)) (lf_rf hG h_b 1 (by decide)) ?_
    refine e_L (L' := [some (aR a), some (aI v1), some (aR b), some (aI v3)]) (st' := [aI v3, aR (b + 2), aR a]) (show decode (mC 91) 172 = .ok (.iload_n 3, 1) by decide +kernel) rfl rfl ?_
    refine e_ialdx (n := 8) (show decode (mC 91) 173 = .ok (.iaload, 1) by decide +kernel) (lf_ok hG h_b 2 (by decide)) (lf_ln hG h_b 2 (by decide)) (by decide) (s32 p1) (s33 p1) ex7 ?_
    refine e_L (L' := [some (aR a), some (aI v1), some (aR b), some (aI v3)]) (st' := [aI v1, aI x7, aR a]) (show decode (mC 91) 174 = .ok (.iload_n 1, 1) by decide +kernel) rfl rfl ?_
    exact e_V (as := [aR a, aI x7, aI v1]) (rest := []) (show decode (mC 91) 175 = .ok (.invokevirtual 153, 3) by decide +kernel) (by decide +kernel) (show (decide ((3 : Nat) = mA 92) && decide (92 < q_law)) = true by decide +kernel) rfl (show (0 : Nat) ≤ 8 by decide) (show (3 : Nat) ≤ mL 92 by decide +kernel) rfl (se_ok hG h_a 0 (by decide)) (tm_le hQ (leN (leN (leN (leN leE)))) (m35 p1))
  · refine e_swj (off := 173) (t := 179) 19 (show decode (mC 91) 6 = .ok (.tableswitch 180 7 19 #[82, 180, 180, 180, 180, 180, 66, 103, 127, 138, 149, 161, 173], 66) by decide +kernel) p1 (by decide +kernel) ?_
    refine e_L (L' := [some (aR a), some (aI v1), some (aR b), some (aI v3)]) (st' := [aR a]) (show decode (mC 91) 179 = .ok (.aload_n 0, 1) by decide +kernel) rfl (by show (if a = 0 then none else some (_, _)) = _; rw [if_neg (show ¬ a = 0 from se_ne h_a 0)]) ?_
    refine e_L (L' := [some (aR a), some (aI v1), some (aR b), some (aI v3)]) (st' := [aI v3, aR a]) (show decode (mC 91) 180 = .ok (.iload_n 3, 1) by decide +kernel) rfl rfl ?_
    refine e_L (L' := [some (aR a), some (aI v1), some (aR b), some (aI v3)]) (st' := [aI v1, aI v3, aR a]) (show decode (mC 91) 181 = .ok (.iload_n 1, 1) by decide +kernel) rfl rfl ?_
    exact e_V (as := [aR a, aI v3, aI v1]) (rest := []) (show decode (mC 91) 182 = .ok (.invokevirtual 153, 3) by decide +kernel) (by decide +kernel) (show (decide ((3 : Nat) = mA 92) && decide (92 < q_law)) = true by decide +kernel) rfl (show (0 : Nat) ≤ 8 by decide) (show (3 : Nat) ≤ mL 92 by decide +kernel) rfl (se_ok hG h_a 0 (by decide)) (tm_le hQ (leN (leN (leN (leN leE)))) (m36 p1))
/-- SoulOffice$Sentence.holds(ILSoulOffice$Life;I)Z, from 123 -/
theorem b91_123 (hG : Shp G) {u1 x1 : Int} {b : Nat} (h_b : Life b)
    (s0 : 0 ≤ u1)
    (s1 : u1 < 64)
    (ex1 : c (b + 6) u1 = x1)
    (s3 : -2147483648 ≤ x1 ∧ x1 < 2147483648)
    (z4 : (x1 ≤ 0) → Q (.inl (some (aI 0))) (G, c))
    (z5 : (0 < x1) → Q (.inl (some (aI 1))) (G, c)) :
    T (d + 1) 91 123 [none, none, none, none] [aI u1, aR (b + 6)] (G, c) Q := by
  refine e_ialdx (n := 64) (show decode (mC 91) 123 = .ok (.iaload, 1) by decide +kernel) (lf_ok hG h_b 6 (by decide)) (lf_ln hG h_b 6 (by decide)) (by decide) s0 s1 ex1 ?_
  refine e_le1 (t := 131) (show decode (mC 91) 124 = .ok (.ifCond .le 7, 3) by decide +kernel) (by decide) s3 (fun p1 => ?_) (fun p1 => ?_)
  · refine e_P (st' := [aI 0]) (show decode (mC 91) 131 = .ok (.iconst 0, 1) by decide +kernel) rfl rfl rfl ?_
    exact e_zret (show decode (mC 91) 132 = .ok (.ireturn, 1) by decide +kernel) rfl (by decide) (z4 p1)
  · refine e_P (st' := [aI 1]) (show decode (mC 91) 127 = .ok (.iconst 1, 1) by decide +kernel) rfl rfl rfl ?_
    refine e_go (t := 132) (show decode (mC 91) 128 = .ok (.goto 4, 3) by decide +kernel) (by decide) ?_
    exact e_zret (show decode (mC 91) 132 = .ok (.ireturn, 1) by decide +kernel) rfl (by decide) (z5 p1)
/-- SoulOffice$Sentence.holds(ILSoulOffice$Life;I)Z, from 139 -/
theorem b91_139 (hG : Shp G) {v1 u1 : Int} {a : Nat} (h_a : Sent a) (hQ : ∀ o o' h', q_eqo o o' → Q o h' → Q o' h')
    (m0 : TM d 92 [aR a, aI u1, aI v1] (G, c) (fun r h' => T (d + 1) 91 143 [none, none, none, none] (r.toList ++ []) h' Q)) :
    T (d + 1) 91 139 [none, some (aI v1), none, none] [aI u1, aR a] (G, c) Q := by
  refine e_L (L' := [none, some (aI v1), none, none]) (st' := [aI v1, aI u1, aR a]) (show decode (mC 91) 139 = .ok (.iload_n 1, 1) by decide +kernel) rfl rfl ?_
  exact e_V (as := [aR a, aI u1, aI v1]) (rest := []) (show decode (mC 91) 140 = .ok (.invokevirtual 153, 3) by decide +kernel) (by decide +kernel) (show (decide ((3 : Nat) = mA 92) && decide (92 < q_law)) = true by decide +kernel) rfl (show (0 : Nat) ≤ 8 by decide) (show (3 : Nat) ≤ mL 92 by decide +kernel) rfl (se_ok hG h_a 0 (by decide)) (tm_le hQ (leS (leN (leS (leS leE)))) m0)
/-- SoulOffice$Sentence.holds(ILSoulOffice$Life;I)Z, from 143 -/
theorem b91_143 (hG : Shp G) {u0 : Int}
    (s0 : u0 = 0 ∨ u0 = 1)
    (z1 : Q (.inl (some (aI u0))) (G, c)) :
    T (d + 1) 91 143 [none, none, none, none] [aI u0] (G, c) Q := by
  exact e_zret (show decode (mC 91) 143 = .ok (.ireturn, 1) by decide +kernel) rfl s0 z1
/-- SoulOffice$Sentence.holds(ILSoulOffice$Life;I)Z, from 150 -/
theorem b91_150 (hG : Shp G) {v1 u1 : Int} {a : Nat} (h_a : Sent a) (hQ : ∀ o o' h', q_eqo o o' → Q o h' → Q o' h')
    (m0 : TM d 92 [aR a, aI u1, aI v1] (G, c) (fun r h' => T (d + 1) 91 154 [none, none, none, none] (r.toList ++ []) h' Q)) :
    T (d + 1) 91 150 [none, some (aI v1), none, none] [aI u1, aR a] (G, c) Q := by
  refine e_L (L' := [none, some (aI v1), none, none]) (st' := [aI v1, aI u1, aR a]) (show decode (mC 91) 150 = .ok (.iload_n 1, 1) by decide +kernel) rfl rfl ?_
  exact e_V (as := [aR a, aI u1, aI v1]) (rest := []) (show decode (mC 91) 151 = .ok (.invokevirtual 153, 3) by decide +kernel) (by decide +kernel) (show (decide ((3 : Nat) = mA 92) && decide (92 < q_law)) = true by decide +kernel) rfl (show (0 : Nat) ≤ 8 by decide) (show (3 : Nat) ≤ mL 92 by decide +kernel) rfl (se_ok hG h_a 0 (by decide)) (tm_le hQ (leS (leN (leS (leS leE)))) m0)
/-- SoulOffice$Sentence.holds(ILSoulOffice$Life;I)Z, from 154 -/
theorem b91_154 (hG : Shp G) {u0 : Int}
    (s0 : u0 = 0 ∨ u0 = 1)
    (z1 : Q (.inl (some (aI u0))) (G, c)) :
    T (d + 1) 91 154 [none, none, none, none] [aI u0] (G, c) Q := by
  exact e_zret (show decode (mC 91) 154 = .ok (.ireturn, 1) by decide +kernel) rfl s0 z1
/-- SoulOffice$Sentence.holds(ILSoulOffice$Life;I)Z, from 166 -/
theorem b91_166 (hG : Shp G) {u0 : Int}
    (s0 : u0 = 0 ∨ u0 = 1)
    (z1 : Q (.inl (some (aI u0))) (G, c)) :
    T (d + 1) 91 166 [none, none, none, none] [aI u0] (G, c) Q := by
  exact e_zret (show decode (mC 91) 166 = .ok (.ireturn, 1) by decide +kernel) rfl s0 z1
/-- SoulOffice$Sentence.holds(ILSoulOffice$Life;I)Z, from 178 -/
theorem b91_178 (hG : Shp G) {u0 : Int}
    (s0 : u0 = 0 ∨ u0 = 1)
    (z1 : Q (.inl (some (aI u0))) (G, c)) :
    T (d + 1) 91 178 [none, none, none, none] [aI u0] (G, c) Q := by
  exact e_zret (show decode (mC 91) 178 = .ok (.ireturn, 1) by decide +kernel) rfl s0 z1
/-- SoulOffice$Sentence.holds(ILSoulOffice$Life;I)Z, from 185 -/
theorem b91_185 (hG : Shp G) {u0 : Int}
    (s0 : u0 = 0 ∨ u0 = 1)
    (z1 : Q (.inl (some (aI u0))) (G, c)) :
    T (d + 1) 91 185 [none, none, none, none] [aI u0] (G, c) Q := by
  exact e_zret (show decode (mC 91) 185 = .ok (.ireturn, 1) by decide +kernel) rfl s0 z1
/-- SoulOffice$Sentence.compares(II)Z, from 0 -/
theorem b92_0 (hG : Shp G) {v1 v2 x1 x2 x3 x4 x5 : Int} {a : Nat} (h_a : Sent a)
    (s0 : 0 ≤ v2)
    (s1 : v2 < 40)
    (ex1 : c (a + 2) v2 = x1)
    (s3 : -2147483648 ≤ x1 ∧ x1 < 2147483648)
    (ex2 : c (a + 2) v2 = x2)
    (s5 : (¬ x1 = 60) → -2147483648 ≤ x2 ∧ x2 < 2147483648)
    (ex3 : c (a + 3) v2 = x3)
    (s7 : (¬ x1 = 60) → (¬ x2 = 62) → -2147483648 ≤ v1 ∧ v1 < 2147483648)
    (s8 : (¬ x1 = 60) → (¬ x2 = 62) → -2147483648 ≤ x3 ∧ x3 < 2147483648)
    (z9 : (¬ x1 = 60) → (¬ x2 = 62) → (¬ v1 = x3) → Q (.inl (some (aI 0))) (G, c))
    (z10 : (¬ x1 = 60) → (¬ x2 = 62) → (v1 = x3) → Q (.inl (some (aI 1))) (G, c))
    (ex4 : c (a + 3) v2 = x4)
    (s12 : (¬ x1 = 60) → (x2 = 62) → -2147483648 ≤ v1 ∧ v1 < 2147483648)
    (s13 : (¬ x1 = 60) → (x2 = 62) → -2147483648 ≤ x4 ∧ x4 < 2147483648)
    (z14 : (¬ x1 = 60) → (x2 = 62) → (v1 ≤ x4) → Q (.inl (some (aI 0))) (G, c))
    (z15 : (¬ x1 = 60) → (x2 = 62) → (x4 < v1) → Q (.inl (some (aI 1))) (G, c))
    (ex5 : c (a + 3) v2 = x5)
    (s17 : (x1 = 60) → -2147483648 ≤ v1 ∧ v1 < 2147483648)
    (s18 : (x1 = 60) → -2147483648 ≤ x5 ∧ x5 < 2147483648)
    (z19 : (x1 = 60) → (x5 ≤ v1) → Q (.inl (some (aI 0))) (G, c))
    (z20 : (x1 = 60) → (v1 < x5) → Q (.inl (some (aI 1))) (G, c)) :
    T d 92 0 [some (aR a), some (aI v1), some (aI v2)] [] (G, c) Q := by
  refine e_L (L' := [some (aR a), some (aI v1), some (aI v2)]) (st' := [aR a]) (show decode (mC 92) 0 = .ok (.aload_n 0, 1) by decide +kernel) rfl (by show (if a = 0 then none else some (_, _)) = _; rw [if_neg (show ¬ a = 0 from se_ne h_a 0)]) ?_
  refine e_getR (w := (a + 2)) (show decode (mC 92) 1 = .ok (.getfield 15, 3) by decide +kernel) (show pl 9 15 = some (0, 9, 3, 0) by decide +kernel) (by decide) (se_ok hG h_a 0 (by decide)) (se_rf hG h_a 1 (by decide)) ?_
  refine e_L (L' := [some (aR a), some (aI v1), some (aI v2)]) (st' := [aI v2, aR (a + 2)]) (show decode (mC 92) 4 = .ok (.iload_n 2, 1) by decide +kernel) rfl rfl ?_
  refine e_ialdx (n := 40) (show decode (mC 92) 5 = .ok (.iaload, 1) by decide +kernel) (se_ok hG h_a 2 (by decide)) (se_ln hG h_a 2 (by decide)) (by decide) s0 s1 ex1 ?_
  refine e_P (st' := [aI 60, aI x1]) (show decode (mC 92) 6 = .ok (.bipush 60, 2) by decide +kernel) rfl rfl rfl ?_
  refine e_ne2 (t := 29) (show decode (mC 92) 8 = .ok (.if_icmp .ne 21, 3) by decide +kernel) (by decide) s3 (by decide) (fun p1 => ?_) (fun p1 => ?_)
  · refine e_L (L' := [some (aR a), some (aI v1), some (aI v2)]) (st' := [aR a]) (show decode (mC 92) 29 = .ok (.aload_n 0, 1) by decide +kernel) rfl (by show (if a = 0 then none else some (_, _)) = _; rw [if_neg (show ¬ a = 0 from se_ne h_a 0)]) ?_
    refine e_getR (w := (a + 2)) (show decode (mC 92) 30 = .ok (.getfield 15, 3) by decide +kernel) (show pl 9 15 = some (0, 9, 3, 0) by decide +kernel) (by decide) (se_ok hG h_a 0 (by decide)) (se_rf hG h_a 1 (by decide)) ?_
    refine e_L (L' := [some (aR a), some (aI v1), some (aI v2)]) (st' := [aI v2, aR (a + 2)]) (show decode (mC 92) 33 = .ok (.iload_n 2, 1) by decide +kernel) rfl rfl ?_
    refine e_ialdx (n := 40) (show decode (mC 92) 34 = .ok (.iaload, 1) by decide +kernel) (se_ok hG h_a 2 (by decide)) (se_ln hG h_a 2 (by decide)) (by decide) s0 s1 ex2 ?_
    refine e_P (st' := [aI 62, aI x2]) (show decode (mC 92) 35 = .ok (.bipush 62, 2) by decide +kernel) rfl rfl rfl ?_
    refine e_ne2 (t := 58) (show decode (mC 92) 37 = .ok (.if_icmp .ne 21, 3) by decide +kernel) (by decide) (s5 p1) (by decide) (fun p2 => ?_) (fun p2 => ?_)
    · refine e_L (L' := [some (aR a), some (aI v1), some (aI v2)]) (st' := [aI v1]) (show decode (mC 92) 58 = .ok (.iload_n 1, 1) by decide +kernel) rfl rfl ?_
      refine e_L (L' := [some (aR a), some (aI v1), some (aI v2)]) (st' := [aR a, aI v1]) (show decode (mC 92) 59 = .ok (.aload_n 0, 1) by decide +kernel) rfl (by show (if a = 0 then none else some (_, _)) = _; rw [if_neg (show ¬ a = 0 from se_ne h_a 0)]) ?_
      refine e_getR (w := (a + 3)) (show decode (mC 92) 60 = .ok (.getfield 18, 3) by decide +kernel) (show pl 9 18 = some (0, 9, 4, 0) by decide +kernel) (by decide) (se_ok hG h_a 0 (by decide)) (se_rf hG h_a 2 (by decide)) ?_
      refine e_L (L' := [some (aR a), some (aI v1), some (aI v2)]) (st' := [aI v2, aR (a + 3), aI v1]) (show decode (mC 92) 63 = .ok (.iload_n 2, 1) by decide +kernel) rfl rfl ?_
      refine e_ialdx (n := 40) (show decode (mC 92) 64 = .ok (.iaload, 1) by decide +kernel) (se_ok hG h_a 3 (by decide)) (se_ln hG h_a 3 (by decide)) (by decide) s0 s1 ex3 ?_
      refine e_ne2 (t := 72) (show decode (mC 92) 65 = .ok (.if_icmp .ne 7, 3) by decide +kernel) (by decide) (s7 p1 p2) (s8 p1 p2) (fun p3 => ?_) (fun p3 => ?_)
      · refine e_P (st' := [aI 0]) (show decode (mC 92) 72 = .ok (.iconst 0, 1) by decide +kernel) rfl rfl rfl ?_
        exact e_zret (show decode (mC 92) 73 = .ok (.ireturn, 1) by decide +kernel) rfl (by decide) (z9 p1 p2 p3)
      · refine e_P (st' := [aI 1]) (show decode (mC 92) 68 = .ok (.iconst 1, 1) by decide +kernel) rfl rfl rfl ?_
        refine e_go (t := 73) (show decode (mC 92) 69 = .ok (.goto 4, 3) by decide +kernel) (by decide) ?_
        exact e_zret (show decode (mC 92) 73 = .ok (.ireturn, 1) by decide +kernel) rfl (by decide) (z10 p1 p2 p3)
    · refine e_L (L' := [some (aR a), some (aI v1), some (aI v2)]) (st' := [aI v1]) (show decode (mC 92) 40 = .ok (.iload_n 1, 1) by decide +kernel) rfl rfl ?_
      refine e_L (L' := [some (aR a), some (aI v1), some (aI v2)]) (st' := [aR a, aI v1]) (show decode (mC 92) 41 = .ok (.aload_n 0, 1) by decide +kernel) rfl (by show (if a = 0 then none else some (_, _)) = _; rw [if_neg (show ¬ a = 0 from se_ne h_a 0)]) ?_
      refine e_getR (w := (a + 3)) (show decode (mC 92) 42 = .ok (.getfield 18, 3) by decide +kernel) (show pl 9 18 = some (0, 9, 4, 0) by decide +kernel) (by decide) (se_ok hG h_a 0 (by decide)) (se_rf hG h_a 2 (by decide)) ?_
      refine e_L (L' := [some (aR a), some (aI v1), some (aI v2)]) (st' := [aI v2, aR (a + 3), aI v1]) (show decode (mC 92) 45 = .ok (.iload_n 2, 1) by decide +kernel) rfl rfl ?_
      refine e_ialdx (n := 40) (show decode (mC 92) 46 = .ok (.iaload, 1) by decide +kernel) (se_ok hG h_a 3 (by decide)) (se_ln hG h_a 3 (by decide)) (by decide) s0 s1 ex4 ?_
      refine e_le2 (t := 54) (show decode (mC 92) 47 = .ok (.if_icmp .le 7, 3) by decide +kernel) (by decide) (s12 p1 p2) (s13 p1 p2) (fun p3 => ?_) (fun p3 => ?_)
      · refine e_P (st' := [aI 0]) (show decode (mC 92) 54 = .ok (.iconst 0, 1) by decide +kernel) rfl rfl rfl ?_
        refine e_go (t := 73) (show decode (mC 92) 55 = .ok (.goto 18, 3) by decide +kernel) (by decide) ?_
        exact e_zret (show decode (mC 92) 73 = .ok (.ireturn, 1) by decide +kernel) rfl (by decide) (z14 p1 p2 p3)
      · refine e_P (st' := [aI 1]) (show decode (mC 92) 50 = .ok (.iconst 1, 1) by decide +kernel) rfl rfl rfl ?_
        refine e_go (t := 73) (show decode (mC 92) 51 = .ok (.goto 22, 3) by decide +kernel) (by decide) ?_
        exact e_zret (show decode (mC 92) 73 = .ok (.ireturn, 1) by decide +kernel) rfl (by decide) (z15 p1 p2 p3)
  · refine e_L (L' := [some (aR a), some (aI v1), some (aI v2)]) (st' := [aI v1]) (show decode (mC 92) 11 = .ok (.iload_n 1, 1) by decide +kernel) rfl rfl ?_
    refine e_L (L' := [some (aR a), some (aI v1), some (aI v2)]) (st' := [aR a, aI v1]) (show decode (mC 92) 12 = .ok (.aload_n 0, 1) by decide +kernel) rfl (by show (if a = 0 then none else some (_, _)) = _; rw [if_neg (show ¬ a = 0 from se_ne h_a 0)]) ?_
    refine e_getR (w := (a + 3)) (show decode (mC 92) 13 = .ok (.getfield 18, 3) by decide +kernel) (show pl 9 18 = some (0, 9, 4, 0) by decide +kernel) (by decide) (se_ok hG h_a 0 (by decide)) (se_rf hG h_a 2 (by decide)) ?_
    refine e_L (L' := [some (aR a), some (aI v1), some (aI v2)]) (st' := [aI v2, aR (a + 3), aI v1]) (show decode (mC 92) 16 = .ok (.iload_n 2, 1) by decide +kernel) rfl rfl ?_
    refine e_ialdx (n := 40) (show decode (mC 92) 17 = .ok (.iaload, 1) by decide +kernel) (se_ok hG h_a 3 (by decide)) (se_ln hG h_a 3 (by decide)) (by decide) s0 s1 ex5 ?_
    refine e_ge2 (t := 25) (show decode (mC 92) 18 = .ok (.if_icmp .ge 7, 3) by decide +kernel) (by decide) (s17 p1) (s18 p1) (fun p2 => ?_) (fun p2 => ?_)
    · refine e_P (st' := [aI 0]) (show decode (mC 92) 25 = .ok (.iconst 0, 1) by decide +kernel) rfl rfl rfl ?_
      refine e_go (t := 73) (show decode (mC 92) 26 = .ok (.goto 47, 3) by decide +kernel) (by decide) ?_
      exact e_zret (show decode (mC 92) 73 = .ok (.ireturn, 1) by decide +kernel) rfl (by decide) (z19 p1 p2)
    · refine e_P (st' := [aI 1]) (show decode (mC 92) 21 = .ok (.iconst 1, 1) by decide +kernel) rfl rfl rfl ?_
      refine e_go (t := 73) (show decode (mC 92) 22 = .ok (.goto 51, 3) by decide +kernel) (by decide) ?_
      exact e_zret (show decode (mC 92) 73 = .ok (.ireturn, 1) by decide +kernel) rfl (by decide) (z20 p1 p2)
/-- SoulOffice$Sentence.readNot(I)Z, from 0 -/
theorem b270_0 (hG : Shp G) {v1 : Int} {a : Nat} (h_a : Sent a) (hQ : ∀ o o' h', q_eqo o o' → Q o h' → Q o' h')
    (m0 : TM d 85 [aR a, aI (v1 + 1)] (G, c) (fun r h' => T (d + 1) 270 7 [some (aR a), none] (r.toList ++ []) h' Q)) :
    T (d + 1) 270 0 [some (aR a), some (aI v1)] [] (G, c) Q := by
  refine e_L (L' := [some (aR a), some (aI v1)]) (st' := [aR a]) (show decode (mC 270) 0 = .ok (.aload_n 0, 1) by decide +kernel) rfl (by show (if a = 0 then none else some (_, _)) = _; rw [if_neg (show ¬ a = 0 from se_ne h_a 0)]) ?_
  refine e_L (L' := [some (aR a), some (aI v1)]) (st' := [aI v1, aR a]) (show decode (mC 270) 1 = .ok (.iload_n 1, 1) by decide +kernel) rfl rfl ?_
  refine e_P (st' := [aI 1, aI v1, aR a]) (show decode (mC 270) 2 = .ok (.iconst 1, 1) by decide +kernel) rfl rfl rfl ?_
  refine e_P (st' := [aI (v1 + 1), aR a]) (show decode (mC 270) 3 = .ok (.iadd, 1) by decide +kernel) rfl rfl rfl ?_
  exact e_V (as := [aR a, aI (v1 + 1)]) (rest := []) (show decode (mC 270) 4 = .ok (.invokevirtual 79, 3) by decide +kernel) (by decide +kernel) (show (decide ((2 : Nat) = mA 85) && decide (85 < q_law)) = true by decide +kernel) rfl (show (0 : Nat) ≤ 8 by decide) (show (2 : Nat) ≤ mL 85 by decide +kernel) rfl (se_ok hG h_a 0 (by decide)) (tm_le hQ (leS (leN leE)) m0)
/-- SoulOffice$Sentence.readNot(I)Z, from 7 -/
theorem b270_7 (hG : Shp G) {u0 : Int} {a : Nat} (h_a : Sent a) (hQ : ∀ o o' h', q_eqo o o' → Q o h' → Q o' h')
    (s0 : -2147483648 ≤ u0 ∧ u0 < 2147483648)
    (z1 : (u0 = 0) → Q (.inl (some (aI 0))) (G, c))
    (m2 : (¬ u0 = 0) → TM d 88 [aR a, aI 12, aI 0, aI 0] (G, c) (fun r h' => T (d + 1) 270 18 [none, none] (r.toList ++ []) h' Q)) :
    T (d + 1) 270 7 [some (aR a), none] [aI u0] (G, c) Q := by
  refine e_eq1 (t := 25) (show decode (mC 270) 7 = .ok (.ifCond .eq 18, 3) by decide +kernel) (by decide) s0 (fun p1 => ?_) (fun p1 => ?_)
  · refine e_P (st' := [aI 0]) (show decode (mC 270) 25 = .ok (.iconst 0, 1) by decide +kernel) rfl rfl rfl ?_
    exact e_zret (show decode (mC 270) 26 = .ok (.ireturn, 1) by decide +kernel) rfl (by decide) (z1 p1)
  · refine e_L (L' := [some (aR a), none]) (st' := [aR a]) (show decode (mC 270) 10 = .ok (.aload_n 0, 1) by decide +kernel) rfl (by show (if a = 0 then none else some (_, _)) = _; rw [if_neg (show ¬ a = 0 from se_ne h_a 0)]) ?_
    refine e_P (st' := [aI 12, aR a]) (show decode (mC 270) 11 = .ok (.bipush 12, 2) by decide +kernel) rfl rfl rfl ?_
    refine e_P (st' := [aI 0, aI 12, aR a]) (show decode (mC 270) 13 = .ok (.iconst 0, 1) by decide +kernel) rfl rfl rfl ?_
    refine e_P (st' := [aI 0, aI 0, aI 12, aR a]) (show decode (mC 270) 14 = .ok (.iconst 0, 1) by decide +kernel) rfl rfl rfl ?_
    exact e_V (as := [aR a, aI 12, aI 0, aI 0]) (rest := []) (show decode (mC 270) 15 = .ok (.invokevirtual 75, 3) by decide +kernel) (by decide +kernel) (show (decide ((4 : Nat) = mA 88) && decide (88 < q_law)) = true by decide +kernel) rfl (show (0 : Nat) ≤ 8 by decide) (show (4 : Nat) ≤ mL 88 by decide +kernel) rfl (se_ok hG h_a 0 (by decide)) (tm_le hQ (leN (leS leE)) (m2 p1))
/-- SoulOffice$Sentence.readNot(I)Z, from 18 -/
theorem b270_18 (hG : Shp G) {u0 : Int}
    (s0 : -2147483648 ≤ u0 ∧ u0 < 2147483648)
    (z1 : (u0 = 0) → Q (.inl (some (aI 0))) (G, c))
    (z2 : (¬ u0 = 0) → Q (.inl (some (aI 1))) (G, c)) :
    T (d + 1) 270 18 [none, none] [aI u0] (G, c) Q := by
  refine e_eq1 (t := 25) (show decode (mC 270) 18 = .ok (.ifCond .eq 7, 3) by decide +kernel) (by decide) s0 (fun p1 => ?_) (fun p1 => ?_)
  · refine e_P (st' := [aI 0]) (show decode (mC 270) 25 = .ok (.iconst 0, 1) by decide +kernel) rfl rfl rfl ?_
    exact e_zret (show decode (mC 270) 26 = .ok (.ireturn, 1) by decide +kernel) rfl (by decide) (z1 p1)
  · refine e_P (st' := [aI 1]) (show decode (mC 270) 21 = .ok (.iconst 1, 1) by decide +kernel) rfl rfl rfl ?_
    refine e_go (t := 26) (show decode (mC 270) 22 = .ok (.goto 4, 3) by decide +kernel) (by decide) ?_
    exact e_zret (show decode (mC 270) 26 = .ok (.ireturn, 1) by decide +kernel) rfl (by decide) (z2 p1)
end QB9
