section QB6
variable {d : Nat} {G : GG} {c : CC} {Q : OO → HH → Prop}
/-- SoulOffice$OfficeText.readLines()I, from 0 -/
theorem b59_0 (hG : Shp G)
    (m0 : TM d 74 [aR 18] (G, c) (fun r h' => T (d + 1) 59 7 [some (aR 119), none] (r.toList ++ []) h' Q)) :
    T (d + 1) 59 0 [some (aR 119), none] [] (G, c) Q := by
  refine e_L (L' := [some (aR 119), none]) (st' := [aR 119]) (show decode (mC 59) 0 = .ok (.aload_n 0, 1) by decide +kernel) rfl (by show (if 119 = 0 then none else some (_, _)) = _; rw [if_neg (by decide)]) ?_
  refine e_getR (w := 18) (show decode (mC 59) 1 = .ok (.getfield 15, 3) by decide +kernel) (show pl 7 15 = some (0, 7, 1, 0) by decide +kernel) (by decide) (sh_ok hG (by decide +kernel)) (sh_rf hG (by decide +kernel)) ?_
  exact e_V (as := [aR 18]) (rest := []) (show decode (mC 59) 4 = .ok (.invokevirtual 19, 3) by decide +kernel) (by decide +kernel) (show (decide ((1 : Nat) = mA 74) && decide (74 < q_law)) = true by decide +kernel) rfl (show (0 : Nat) ≤ 8 by decide) (show (1 : Nat) ≤ mL 74 by decide +kernel) rfl (sh_ok hG (by decide +kernel)) m0
/-- SoulOffice$OfficeText.readLines()I, from 7 -/
theorem b59_7 (hG : Shp G)
    (m0 : TM d 95 [aR 2, aI 900] (G, c) (fun r h' => T (d + 1) 59 17 [some (aR 119), none] (r.toList ++ []) h' Q)) :
    T (d + 1) 59 7 [some (aR 119), none] [] (G, c) Q := by
  refine e_L (L' := [some (aR 119), none]) (st' := [aR 119]) (show decode (mC 59) 7 = .ok (.aload_n 0, 1) by decide +kernel) rfl (by show (if 119 = 0 then none else some (_, _)) = _; rw [if_neg (by decide)]) ?_
  refine e_getR (w := 2) (show decode (mC 59) 8 = .ok (.getfield 9, 3) by decide +kernel) (show pl 7 9 = some (0, 7, 0, 0) by decide +kernel) (by decide) (sh_ok hG (by decide +kernel)) (sh_rf hG (by decide +kernel)) ?_
  refine e_P (st' := [aI 900, aR 2]) (show decode (mC 59) 11 = .ok (.sipush 900, 3) by decide +kernel) rfl rfl rfl ?_
  exact e_V (as := [aR 2, aI 900]) (rest := []) (show decode (mC 59) 14 = .ok (.invokevirtual 24, 3) by decide +kernel) (by decide +kernel) (show (decide ((2 : Nat) = mA 95) && decide (95 < q_law)) = true by decide +kernel) rfl (show (0 : Nat) ≤ 8 by decide) (show (2 : Nat) ≤ mL 95 by decide +kernel) rfl (sh_ok hG (by decide +kernel)) m0
/-- SoulOffice$OfficeText.readLines()I, from 17 -/
theorem b59_17 (hG : Shp G)
    (k0 : T (d + 1) 59 19 [some (aR 119), some (aI 0)] [] (G, c) Q) :
    T (d + 1) 59 17 [some (aR 119), none] [] (G, c) Q := by
  refine e_P (st' := [aI 0]) (show decode (mC 59) 17 = .ok (.iconst 0, 1) by decide +kernel) rfl rfl rfl ?_
  refine e_L (L' := [some (aR 119), some (aI 0)]) (st' := []) (show decode (mC 59) 18 = .ok (.istore_n 1, 1) by decide +kernel) rfl rfl ?_
  exact k0
/-- SoulOffice$OfficeText.readLines()I, from 19 -/
theorem b59_19 (hG : Shp G) {v1 x1 : Int}
    (s0 : -2147483648 ≤ v1 ∧ v1 < 2147483648)
    (z1 : (900 < v1) → Q (.inl (some (aI (-1)))) (G, c))
    (ex1 : c 2 10 = x1)
    (s3 : (v1 ≤ 900) → -2147483648 ≤ x1 ∧ x1 < 2147483648)
    (m4 : (v1 ≤ 900) → (¬ x1 = 0) → TM d 60 [aR 119] (G, c) (fun r h' => T (d + 1) 59 61 [some (aR 119), some (aI v1)] (r.toList ++ []) h' Q))
    (m5 : (v1 ≤ 900) → (x1 = 0) → TM d 100 [aR 2] (G, c) (fun r h' => T (d + 1) 59 43 [some (aR 119), some (aI v1)] (r.toList ++ []) h' Q)) :
    T (d + 1) 59 19 [some (aR 119), some (aI v1)] [] (G, c) Q := by
  refine e_L (L' := [some (aR 119), some (aI v1)]) (st' := [aI v1]) (show decode (mC 59) 19 = .ok (.iload_n 1, 1) by decide +kernel) rfl rfl ?_
  refine e_P (st' := [aI 900, aI v1]) (show decode (mC 59) 20 = .ok (.sipush 900, 3) by decide +kernel) rfl rfl rfl ?_
  refine e_gt2 (t := 84) (show decode (mC 59) 23 = .ok (.if_icmp .gt 61, 3) by decide +kernel) (by decide) s0 (by decide) (fun p1 => ?_) (fun p1 => ?_)
  · refine e_P (st' := [aI (-1)]) (show decode (mC 59) 84 = .ok (.iconst (-1), 1) by decide +kernel) rfl rfl rfl ?_
    exact e_iret (show decode (mC 59) 85 = .ok (.ireturn, 1) by decide +kernel) rfl (z1 p1)
  · refine e_L (L' := [some (aR 119), some (aI v1)]) (st' := [aR 119]) (show decode (mC 59) 26 = .ok (.aload_n 0, 1) by decide +kernel) rfl (by show (if 119 = 0 then none else some (_, _)) = _; rw [if_neg (by decide)]) ?_
    refine e_getR (w := 2) (show decode (mC 59) 27 = .ok (.getfield 9, 3) by decide +kernel) (show pl 7 9 = some (0, 7, 0, 0) by decide +kernel) (by decide) (sh_ok hG (by decide +kernel)) (sh_rf hG (by decide +kernel)) ?_
    refine e_getIx (show decode (mC 59) 30 = .ok (.getfield 30, 3) by decide +kernel) (show pl 7 30 = some (0, 10, 10, 0) by decide +kernel) (by decide) (sh_ok hG (by decide +kernel)) ex1 ?_
    refine e_ne1 (t := 57) (show decode (mC 59) 33 = .ok (.ifCond .ne 24, 3) by decide +kernel) (by decide) (s3 p1) (fun p2 => ?_) (fun p2 => ?_)
    · refine e_L (L' := [some (aR 119), some (aI v1)]) (st' := [aR 119]) (show decode (mC 59) 57 = .ok (.aload_n 0, 1) by decide +kernel) rfl (by show (if 119 = 0 then none else some (_, _)) = _; rw [if_neg (by decide)]) ?_
      exact e_V (as := [aR 119]) (rest := []) (show decode (mC 59) 58 = .ok (.invokevirtual 41, 3) by decide +kernel) (by decide +kernel) (show (decide ((1 : Nat) = mA 60) && decide (60 < q_law)) = true by decide +kernel) rfl (show (0 : Nat) ≤ 8 by decide) (show (1 : Nat) ≤ mL 60 by decide +kernel) rfl (sh_ok hG (by decide +kernel)) (m4 p1 p2)
    · refine e_L (L' := [some (aR 119), some (aI v1)]) (st' := [aR 119]) (show decode (mC 59) 36 = .ok (.aload_n 0, 1) by decide +kernel) rfl (by show (if 119 = 0 then none else some (_, _)) = _; rw [if_neg (by decide)]) ?_
      refine e_getR (w := 2) (show decode (mC 59) 37 = .ok (.getfield 9, 3) by decide +kernel) (show pl 7 9 = some (0, 7, 0, 0) by decide +kernel) (by decide) (sh_ok hG (by decide +kernel)) (sh_rf hG (by decide +kernel)) ?_
      exact e_V (as := [aR 2]) (rest := []) (show decode (mC 59) 40 = .ok (.invokevirtual 34, 3) by decide +kernel) (by decide +kernel) (show (decide ((1 : Nat) = mA 100) && decide (100 < q_law)) = true by decide +kernel) rfl (show (0 : Nat) ≤ 8 by decide) (show (1 : Nat) ≤ mL 100 by decide +kernel) rfl (sh_ok hG (by decide +kernel)) (m5 p1 p2)
/-- SoulOffice$OfficeText.readLines()I, from 43 -/
theorem b59_43 (hG : Shp G) {v1 u0 : Int} (hQ : ∀ o o' h', q_eqo o o' → Q o h' → Q o' h')
    (s0 : -2147483648 ≤ u0 ∧ u0 < 2147483648)
    (m1 : (¬ u0 = 0) → TM d 75 [aR 18] (G, c) (fun r h' => T (d + 1) 59 55 [none, some (aI v1)] (r.toList ++ []) h' Q))
    (z2 : (u0 = 0) → Q (.inl (some (aI (-1)))) (G, c)) :
    T (d + 1) 59 43 [some (aR 119), some (aI v1)] [aI u0] (G, c) Q := by
  refine e_ne1 (t := 48) (show decode (mC 59) 43 = .ok (.ifCond .ne 5, 3) by decide +kernel) (by decide) s0 (fun p1 => ?_) (fun p1 => ?_)
  · refine e_L (L' := [some (aR 119), some (aI v1)]) (st' := [aR 119]) (show decode (mC 59) 48 = .ok (.aload_n 0, 1) by decide +kernel) rfl (by show (if 119 = 0 then none else some (_, _)) = _; rw [if_neg (by decide)]) ?_
    refine e_getR (w := 18) (show decode (mC 59) 49 = .ok (.getfield 15, 3) by decide +kernel) (show pl 7 15 = some (0, 7, 1, 0) by decide +kernel) (by decide) (sh_ok hG (by decide +kernel)) (sh_rf hG (by decide +kernel)) ?_
    exact e_V (as := [aR 18]) (rest := []) (show decode (mC 59) 52 = .ok (.invokevirtual 38, 3) by decide +kernel) (by decide +kernel) (show (decide ((1 : Nat) = mA 75) && decide (75 < q_law)) = true by decide +kernel) rfl (show (0 : Nat) ≤ 8 by decide) (show (1 : Nat) ≤ mL 75 by decide +kernel) rfl (sh_ok hG (by decide +kernel)) (tm_le hQ (leN (leS leE)) (m1 p1))
  · refine e_P (st' := [aI (-1)]) (show decode (mC 59) 46 = .ok (.iconst (-1), 1) by decide +kernel) rfl rfl rfl ?_
    exact e_iret (show decode (mC 59) 47 = .ok (.ireturn, 1) by decide +kernel) rfl (z2 p1)
/-- SoulOffice$OfficeText.readLines()I, from 55 -/
theorem b59_55 (hG : Shp G) {v1 : Int}
    (z0 : Q (.inl (some (aI v1))) (G, c)) :
    T (d + 1) 59 55 [none, some (aI v1)] [] (G, c) Q := by
  refine e_L (L' := [none, some (aI v1)]) (st' := [aI v1]) (show decode (mC 59) 55 = .ok (.iload_n 1, 1) by decide +kernel) rfl rfl ?_
  exact e_iret (show decode (mC 59) 56 = .ok (.ireturn, 1) by decide +kernel) rfl z0
/-- SoulOffice$OfficeText.readLines()I, from 61 -/
theorem b59_61 (hG : Shp G) {v1 u0 : Int}
    (s0 : -2147483648 ≤ u0 ∧ u0 < 2147483648)
    (z1 : (u0 = 0) → Q (.inl (some (aI (-1)))) (G, c))
    (m2 : (¬ u0 = 0) → TM d 103 [aR 2, aI 59] (G, c) (fun r h' => T (d + 1) 59 73 [some (aR 119), some (aI v1)] (r.toList ++ []) h' Q)) :
    T (d + 1) 59 61 [some (aR 119), some (aI v1)] [aI u0] (G, c) Q := by
  refine e_eq1 (t := 76) (show decode (mC 59) 61 = .ok (.ifCond .eq 15, 3) by decide +kernel) (by decide) s0 (fun p1 => ?_) (fun p1 => ?_)
  · refine e_P (st' := [aI (-1)]) (show decode (mC 59) 76 = .ok (.iconst (-1), 1) by decide +kernel) rfl rfl rfl ?_
    exact e_iret (show decode (mC 59) 77 = .ok (.ireturn, 1) by decide +kernel) rfl (z1 p1)
  · refine e_L (L' := [some (aR 119), some (aI v1)]) (st' := [aR 119]) (show decode (mC 59) 64 = .ok (.aload_n 0, 1) by decide +kernel) rfl (by show (if 119 = 0 then none else some (_, _)) = _; rw [if_neg (by decide)]) ?_
    refine e_getR (w := 2) (show decode (mC 59) 65 = .ok (.getfield 9, 3) by decide +kernel) (show pl 7 9 = some (0, 7, 0, 0) by decide +kernel) (by decide) (sh_ok hG (by decide +kernel)) (sh_rf hG (by decide +kernel)) ?_
    refine e_P (st' := [aI 59, aR 2]) (show decode (mC 59) 68 = .ok (.bipush 59, 2) by decide +kernel) rfl rfl rfl ?_
    exact e_V (as := [aR 2, aI 59]) (rest := []) (show decode (mC 59) 70 = .ok (.invokevirtual 44, 3) by decide +kernel) (by decide +kernel) (show (decide ((2 : Nat) = mA 103) && decide (103 < q_law)) = true by decide +kernel) rfl (show (0 : Nat) ≤ 8 by decide) (show (2 : Nat) ≤ mL 103 by decide +kernel) rfl (sh_ok hG (by decide +kernel)) (m2 p1)
/-- SoulOffice$OfficeText.readLines()I, from 73 -/
theorem b59_73 (hG : Shp G) {v1 u0 : Int}
    (s0 : -2147483648 ≤ u0 ∧ u0 < 2147483648)
    (k1 : (¬ u0 = 0) → T (d + 1) 59 19 [some (aR 119), some (aI (v1 + 1))] [] (G, c) Q)
    (z2 : (u0 = 0) → Q (.inl (some (aI (-1)))) (G, c)) :
    T (d + 1) 59 73 [some (aR 119), some (aI v1)] [aI u0] (G, c) Q := by
  refine e_ne1 (t := 78) (show decode (mC 59) 73 = .ok (.ifCond .ne 5, 3) by decide +kernel) (by decide) s0 (fun p1 => ?_) (fun p1 => ?_)
  · refine e_L (L' := [some (aR 119), some (aI (v1 + 1))]) (st' := []) (show decode (mC 59) 78 = .ok (.iinc 1 1, 3) by decide +kernel) rfl rfl ?_
    refine e_go (t := 19) (show decode (mC 59) 81 = .ok (.goto (-62), 3) by decide +kernel) (by decide) ?_
    exact (k1 p1)
  · refine e_P (st' := [aI (-1)]) (show decode (mC 59) 76 = .ok (.iconst (-1), 1) by decide +kernel) rfl rfl rfl ?_
    exact e_iret (show decode (mC 59) 77 = .ok (.ireturn, 1) by decide +kernel) rfl (z2 p1)
/-- SoulOffice$OfficeText.readLine()Z, from 0 -/
theorem b60_0 (hG : Shp G) {x1 x2 : Int} (hQ : ∀ o o' h', q_eqo o o' → Q o h' → Q o' h')
    (ex1 : c 2 10 = x1)
    (s1 : -2147483648 ≤ x1 ∧ x1 < 2147483648)
    (ex2 : c 2 12 = x2)
    (s3 : (x1 = 2) → -2147483648 ≤ x2 ∧ x2 < 2147483648)
    (m4 : (x1 = 2) → (x2 < 0 ∨ 6 < x2) → TM d 99 [aR 2, aI 1] (G, c) (fun r h' => T (d + 1) 60 111 [none] (r.toList ++ []) h' Q))
    (m5 : (x1 = 2) → (x2 = 0) → TM d 61 [aR 119] (G, c) (fun r h' => T (d + 1) 60 72 [none] (r.toList ++ []) h' Q))
    (m6 : (x1 = 2) → (x2 = 1) → TM d 62 [aR 119] (G, c) (fun r h' => T (d + 1) 60 77 [none] (r.toList ++ []) h' Q))
    (m7 : (x1 = 2) → (x2 = 2) → TM d 63 [aR 119] (G, c) (fun r h' => T (d + 1) 60 82 [none] (r.toList ++ []) h' Q))
    (m8 : (x1 = 2) → (x2 = 3) → TM d 64 [aR 119] (G, c) (fun r h' => T (d + 1) 60 87 [none] (r.toList ++ []) h' Q))
    (m9 : (x1 = 2) → (x2 = 4) → TM d 65 [aR 119] (G, c) (fun r h' => T (d + 1) 60 92 [none] (r.toList ++ []) h' Q))
    (m10 : (x1 = 2) → (x2 = 5) → TM d 66 [aR 119] (G, c) (fun r h' => T (d + 1) 60 97 [none] (r.toList ++ []) h' Q))
    (m11 : (x1 = 2) → (x2 = 6) → TM d 67 [aR 119] (G, c) (fun r h' => T (d + 1) 60 102 [none] (r.toList ++ []) h' Q))
    (m12 : (¬ x1 = 2) → TM d 99 [aR 2, aI 1] (G, c) (fun r h' => T (d + 1) 60 19 [none] (r.toList ++ []) h' Q)) :
    T (d + 1) 60 0 [some (aR 119)] [] (G, c) Q := by
  refine e_L (L' := [some (aR 119)]) (st' := [aR 119]) (show decode (mC 60) 0 = .ok (.aload_n 0, 1) by decide +kernel) rfl (by show (if 119 = 0 then none else some (_, _)) = _; rw [if_neg (by decide)]) ?_
  refine e_getR (w := 2) (show decode (mC 60) 1 = .ok (.getfield 9, 3) by decide +kernel) (show pl 7 9 = some (0, 7, 0, 0) by decide +kernel) (by decide) (sh_ok hG (by decide +kernel)) (sh_rf hG (by decide +kernel)) ?_
  refine e_getIx (show decode (mC 60) 4 = .ok (.getfield 30, 3) by decide +kernel) (show pl 7 30 = some (0, 10, 10, 0) by decide +kernel) (by decide) (sh_ok hG (by decide +kernel)) ex1 ?_
  refine e_P (st' := [aI 2, aI x1]) (show decode (mC 60) 7 = .ok (.iconst 2, 1) by decide +kernel) rfl rfl rfl ?_
  refine e_eq2 (t := 20) (show decode (mC 60) 8 = .ok (.if_icmp .eq 12, 3) by decide +kernel) (by decide) s1 (by decide) (fun p1 => ?_) (fun p1 => ?_)
  · refine e_L (L' := [some (aR 119)]) (st' := [aR 119]) (show decode (mC 60) 20 = .ok (.aload_n 0, 1) by decide +kernel) rfl (by show (if 119 = 0 then none else some (_, _)) = _; rw [if_neg (by decide)]) ?_
    refine e_getR (w := 2) (show decode (mC 60) 21 = .ok (.getfield 9, 3) by decide +kernel) (show pl 7 9 = some (0, 7, 0, 0) by decide +kernel) (by decide) (sh_ok hG (by decide +kernel)) (sh_rf hG (by decide +kernel)) ?_
    refine e_getIx (show decode (mC 60) 24 = .ok (.getfield 52, 3) by decide +kernel) (show pl 7 52 = some (0, 10, 12, 0) by decide +kernel) (by decide) (sh_ok hG (by decide +kernel)) ex2 ?_
    rcases (show (x2 < 0 ∨ 6 < x2) ∨ x2 = 0 ∨ x2 = 1 ∨ x2 = 2 ∨ x2 = 3 ∨ x2 = 4 ∨ x2 = 5 ∨ x2 = 6 by omega) with p2 | p2 | p2 | p2 | p2 | p2 | p2 | p2
    · refine e_swd (t := 103) (show decode (mC 60) 27 = .ok (.tableswitch 76 0 6 #[41, 46, 51, 56, 61, 66, 71], 41) by decide +kernel) (s3 p1) p2 (by decide) ?_
      refine e_L (L' := [some (aR 119)]) (st' := [aR 119]) (show decode (mC 60) 103 = .ok (.aload_n 0, 1) by decide +kernel) rfl (by show (if 119 = 0 then none else some (_, _)) = _; rw [if_neg (by decide)]) ?_
      refine e_getR (w := 2) (show decode (mC 60) 104 = .ok (.getfield 9, 3) by decide +kernel) (show pl 7 9 = some (0, 7, 0, 0) by decide +kernel) (by decide) (sh_ok hG (by decide +kernel)) (sh_rf hG (by decide +kernel)) ?_
      refine e_P (st' := [aI 1, aR 2]) (show decode (mC 60) 107 = .ok (.iconst 1, 1) by decide +kernel) rfl rfl rfl ?_
      exact e_V (as := [aR 2, aI 1]) (rest := []) (show decode (mC 60) 108 = .ok (.invokevirtual 48, 3) by decide +kernel) (by decide +kernel) (show (decide ((2 : Nat) = mA 99) && decide (99 < q_law)) = true by decide +kernel) rfl (show (0 : Nat) ≤ 8 by decide) (show (2 : Nat) ≤ mL 99 by decide +kernel) rfl (sh_ok hG (by decide +kernel)) (tm_le hQ (leN leE) (m4 p1 p2))
    · refine e_swj (off := 41) (t := 68) 0 (show decode (mC 60) 27 = .ok (.tableswitch 76 0 6 #[41, 46, 51, 56, 61, 66, 71], 41) by decide +kernel) p2 (by decide +kernel) ?_
      refine e_L (L' := [some (aR 119)]) (st' := [aR 119]) (show decode (mC 60) 68 = .ok (.aload_n 0, 1) by decide +kernel) rfl (by show (if 119 = 0 then none else some (_, _)) = _; rw [if_neg (by decide)]) ?_
      exact e_V (as := [aR 119]) (rest := []) (show decode (mC 60) 69 = .ok (.invokevirtual 55, 3) by decide +kernel) (by decide +kernel) (show (decide ((1 : Nat) = mA 61) && decide (61 < q_law)) = true by decide +kernel) rfl (show (0 : Nat) ≤ 8 by decide) (show (1 : Nat) ≤ mL 61 by decide +kernel) rfl (sh_ok hG (by decide +kernel)) (tm_le hQ (leN leE) (m5 p1 p2))
    · refine e_swj (off := 46) (t := 73) 1 (show decode (mC 60) 27 = .ok (.tableswitch 76 0 6 #[41, 46, 51, 56, 61, 66, 71], 41) by decide +kernel) p2 (by decide +kernel) ?_
      refine e_L (L' := [some (aR 119)]) (st' := [aR 119]) (show decode (mC 60) 73 = .ok (.aload_n 0, 1) by decide +kernel) rfl (by show (if 119 = 0 then none else some (_, _)) = _; rw [if_neg (by decide)]) ?_
      exact e_V (as := [aR 119]) (rest := []) (show decode (mC 60) 74 = .ok (.invokevirtual 58, 3) by decide +kernel) (by decide +kernel) (show (decide ((1 : Nat) = mA 62) && decide (62 < q_law)) = true by decide +kernel) rfl (show (0 : Nat) ≤ 8 by decide) (show (1 : Nat) ≤ mL 62 by decide +kernel) rfl (sh_ok hG (by decide +kernel)) (tm_le hQ (leN leE) (m6 p1 p2))
    · refine e_swj (off := 51) (t := 78) 2 (show decode (mC 60) 27 = .ok (.tableswitch 76 0 6 #[41, 46, 51, 56, 61, 66, 71], 41) by decide +kernel) p2 (by decide +kernel) ?_
      refine e_L (L' := [some (aR 119)]) (st' := [aR 119]) (show decode (mC 60) 78 = .ok (.aload_n 0, 1) by decide +kernel) rfl (by show (if 119 = 0 then none else some (_, _)) = _; rw [if_neg (by decide)]) ?_
      exact e_V (as := [aR 119]) (rest := []) (show decode (mC 60) 79 = .ok (.invokevirtual 61, 3) by decide +kernel) (by decide +kernel) (show (decide ((1 : Nat) = mA 63) && decide (63 < q_law)) = true by decide +kernel) rfl (show (0 : Nat) ≤ 8 by decide) (show (1 : Nat) ≤ mL 63 by decide +kernel) rfl (sh_ok hG (by decide +kernel)) (tm_le hQ (leN leE) (m7 p1 p2))
    · refine e_swj (off := 56) (t := 83) 3 (show decode (mC 60) 27 = .ok (.tableswitch 76 0 6 #[41, 46, 51, 56, 61, 66, 71], 41) by decide +kernel) p2 (by decide +kernel) ?_
      refine e_L (L' := [some (aR 119)]) (st' := [aR 119]) (show decode (mC 60) 83 = .ok (.aload_n 0, 1) by decide +kernel) rfl (by show (if 119 = 0 then none else some (_, _)) = _; rw [if_neg (by decide)]) ?_
      exact e_V (as := [aR 119]) (rest := []) (show decode (mC 60) 84 = .ok (.invokevirtual 64, 3) by decide +kernel) (by decide +kernel) (show (decide ((1 : Nat) = mA 64) && decide (64 < q_law)) = true by decide +kernel) rfl (show (0 : Nat) ≤ 8 by decide) (show (1 : Nat) ≤ mL 64 by decide +kernel) rfl (sh_ok hG (by decide +kernel)) (tm_le hQ (leN leE) (m8 p1 p2))
    · refine e_swj (off := 61) (t := 88) 4 (show decode (mC 60) 27 = .ok (.tableswitch 76 0 6 #[41, 46, 51, 56, 61, 66, 71], 41) by decide +kernel) p2 (by decide +kernel) ?_
      refine e_L (L' := [some (aR 119)]) (st' := [aR 119]) (show decode (mC 60) 88 = .ok (.aload_n 0, 1) by decide +kernel) rfl (by show (if 119 = 0 then none else some (_, _)) = _; rw [if_neg (by decide)]) ?_
      exact e_V (as := [aR 119]) (rest := []) (show decode (mC 60) 89 = .ok (.invokevirtual 67, 3) by decide +kernel) (by decide +kernel) (show (decide ((1 : Nat) = mA 65) && decide (65 < q_law)) = true by decide +kernel) rfl (show (0 : Nat) ≤ 8 by decide) (show (1 : Nat) ≤ mL 65 by decide +kernel) rfl (sh_ok hG (by decide +kernel)) (tm_le hQ (leN leE) (m9 p1 p2))
    · refine e_swj (off := 66) (t := 93) 5 (show decode (mC 60) 27 = .ok (.tableswitch 76 0 6 #[41, 46, 51, 56, 61, 66, 71], 41) by decide +kernel) p2 (by decide +kernel) ?_
      refine e_L (L' := [some (aR 119)]) (st' := [aR 119]) (show decode (mC 60) 93 = .ok (.aload_n 0, 1) by decide +kernel) rfl (by show (if 119 = 0 then none else some (_, _)) = _; rw [if_neg (by decide)]) ?_
      exact e_V (as := [aR 119]) (rest := []) (show decode (mC 60) 94 = .ok (.invokevirtual 70, 3) by decide +kernel) (by decide +kernel) (show (decide ((1 : Nat) = mA 66) && decide (66 < q_law)) = true by decide +kernel) rfl (show (0 : Nat) ≤ 8 by decide) (show (1 : Nat) ≤ mL 66 by decide +kernel) rfl (sh_ok hG (by decide +kernel)) (tm_le hQ (leN leE) (m10 p1 p2))
    · refine e_swj (off := 71) (t := 98) 6 (show decode (mC 60) 27 = .ok (.tableswitch 76 0 6 #[41, 46, 51, 56, 61, 66, 71], 41) by decide +kernel) p2 (by decide +kernel) ?_
      refine e_L (L' := [some (aR 119)]) (st' := [aR 119]) (show decode (mC 60) 98 = .ok (.aload_n 0, 1) by decide +kernel) rfl (by show (if 119 = 0 then none else some (_, _)) = _; rw [if_neg (by decide)]) ?_
      exact e_V (as := [aR 119]) (rest := []) (show decode (mC 60) 99 = .ok (.invokevirtual 73, 3) by decide +kernel) (by decide +kernel) (show (decide ((1 : Nat) = mA 67) && decide (67 < q_law)) = true by decide +kernel) rfl (show (0 : Nat) ≤ 8 by decide) (show (1 : Nat) ≤ mL 67 by decide +kernel) rfl (sh_ok hG (by decide +kernel)) (tm_le hQ (leN leE) (m11 p1 p2))
  · refine e_L (L' := [some (aR 119)]) (st' := [aR 119]) (show decode (mC 60) 11 = .ok (.aload_n 0, 1) by decide +kernel) rfl (by show (if 119 = 0 then none else some (_, _)) = _; rw [if_neg (by decide)]) ?_
    refine e_getR (w := 2) (show decode (mC 60) 12 = .ok (.getfield 9, 3) by decide +kernel) (show pl 7 9 = some (0, 7, 0, 0) by decide +kernel) (by decide) (sh_ok hG (by decide +kernel)) (sh_rf hG (by decide +kernel)) ?_
    refine e_P (st' := [aI 1, aR 2]) (show decode (mC 60) 15 = .ok (.iconst 1, 1) by decide +kernel) rfl rfl rfl ?_
    exact e_V (as := [aR 2, aI 1]) (rest := []) (show decode (mC 60) 16 = .ok (.invokevirtual 48, 3) by decide +kernel) (by decide +kernel) (show (decide ((2 : Nat) = mA 99) && decide (99 < q_law)) = true by decide +kernel) rfl (show (0 : Nat) ≤ 8 by decide) (show (2 : Nat) ≤ mL 99 by decide +kernel) rfl (sh_ok hG (by decide +kernel)) (tm_le hQ (leN leE) (m12 p1))
/-- SoulOffice$OfficeText.readLine()Z, from 19 -/
theorem b60_19 (hG : Shp G) {u0 : Int}
    (s0 : u0 = 0 ∨ u0 = 1)
    (z1 : Q (.inl (some (aI u0))) (G, c)) :
    T (d + 1) 60 19 [none] [aI u0] (G, c) Q := by
  exact e_zret (show decode (mC 60) 19 = .ok (.ireturn, 1) by decide +kernel) rfl s0 z1
/-- SoulOffice$OfficeText.readLine()Z, from 72 -/
theorem b60_72 (hG : Shp G) {u0 : Int}
    (s0 : u0 = 0 ∨ u0 = 1)
    (z1 : Q (.inl (some (aI u0))) (G, c)) :
    T (d + 1) 60 72 [none] [aI u0] (G, c) Q := by
  exact e_zret (show decode (mC 60) 72 = .ok (.ireturn, 1) by decide +kernel) rfl s0 z1
/-- SoulOffice$OfficeText.readLine()Z, from 77 -/
theorem b60_77 (hG : Shp G) {u0 : Int}
    (s0 : u0 = 0 ∨ u0 = 1)
    (z1 : Q (.inl (some (aI u0))) (G, c)) :
    T (d + 1) 60 77 [none] [aI u0] (G, c) Q := by
  exact e_zret (show decode (mC 60) 77 = .ok (.ireturn, 1) by decide +kernel) rfl s0 z1
/-- SoulOffice$OfficeText.readLine()Z, from 82 -/
theorem b60_82 (hG : Shp G) {u0 : Int}
    (s0 : u0 = 0 ∨ u0 = 1)
    (z1 : Q (.inl (some (aI u0))) (G, c)) :
    T (d + 1) 60 82 [none] [aI u0] (G, c) Q := by
  exact e_zret (show decode (mC 60) 82 = .ok (.ireturn, 1) by decide +kernel) rfl s0 z1
/-- SoulOffice$OfficeText.readLine()Z, from 87 -/
theorem b60_87 (hG : Shp G) {u0 : Int}
    (s0 : u0 = 0 ∨ u0 = 1)
    (z1 : Q (.inl (some (aI u0))) (G, c)) :
    T (d + 1) 60 87 [none] [aI u0] (G, c) Q := by
  exact e_zret (show decode (mC 60) 87 = .ok (.ireturn, 1) by decide +kernel) rfl s0 z1
/-- SoulOffice$OfficeText.readLine()Z, from 92 -/
theorem b60_92 (hG : Shp G) {u0 : Int}
    (s0 : u0 = 0 ∨ u0 = 1)
    (z1 : Q (.inl (some (aI u0))) (G, c)) :
    T (d + 1) 60 92 [none] [aI u0] (G, c) Q := by
  exact e_zret (show decode (mC 60) 92 = .ok (.ireturn, 1) by decide +kernel) rfl s0 z1
/-- SoulOffice$OfficeText.readLine()Z, from 97 -/
theorem b60_97 (hG : Shp G) {u0 : Int}
    (s0 : u0 = 0 ∨ u0 = 1)
    (z1 : Q (.inl (some (aI u0))) (G, c)) :
    T (d + 1) 60 97 [none] [aI u0] (G, c) Q := by
  exact e_zret (show decode (mC 60) 97 = .ok (.ireturn, 1) by decide +kernel) rfl s0 z1
/-- SoulOffice$OfficeText.readLine()Z, from 102 -/
theorem b60_102 (hG : Shp G) {u0 : Int}
    (s0 : u0 = 0 ∨ u0 = 1)
    (z1 : Q (.inl (some (aI u0))) (G, c)) :
    T (d + 1) 60 102 [none] [aI u0] (G, c) Q := by
  exact e_zret (show decode (mC 60) 102 = .ok (.ireturn, 1) by decide +kernel) rfl s0 z1
/-- SoulOffice$OfficeText.readLine()Z, from 111 -/
theorem b60_111 (hG : Shp G) {u0 : Int}
    (s0 : u0 = 0 ∨ u0 = 1)
    (z1 : Q (.inl (some (aI u0))) (G, c)) :
    T (d + 1) 60 111 [none] [aI u0] (G, c) Q := by
  exact e_zret (show decode (mC 60) 111 = .ok (.ireturn, 1) by decide +kernel) rfl s0 z1
/-- SoulOffice$OfficeText.readKind()Z, from 0 -/
theorem b61_0 (hG : Shp G) {x1 : Int} (hQ : ∀ o o' h', q_eqo o o' → Q o h' → Q o' h')
    (ex1 : c 18 0 = x1)
    (s1 : -2147483648 ≤ x1 ∧ x1 < 2147483648)
    (m2 : (x1 < 6) → TM d 98 [aR 2] (G, c) (fun r h' => T (d + 1) 61 28 [some (aR 119), none, none, none, none] (r.toList ++ []) h' Q))
    (m3 : (6 ≤ x1) → TM d 99 [aR 2, aI 4] (G, c) (fun r h' => T (d + 1) 61 20 [none, none, none, none, none] (r.toList ++ []) h' Q)) :
    T (d + 1) 61 0 [some (aR 119), none, none, none, none] [] (G, c) Q := by
  refine e_L (L' := [some (aR 119), none, none, none, none]) (st' := [aR 119]) (show decode (mC 61) 0 = .ok (.aload_n 0, 1) by decide +kernel) rfl (by show (if 119 = 0 then none else some (_, _)) = _; rw [if_neg (by decide)]) ?_
  refine e_getR (w := 18) (show decode (mC 61) 1 = .ok (.getfield 15, 3) by decide +kernel) (show pl 7 15 = some (0, 7, 1, 0) by decide +kernel) (by decide) (sh_ok hG (by decide +kernel)) (sh_rf hG (by decide +kernel)) ?_
  refine e_getIx (show decode (mC 61) 4 = .ok (.getfield 76, 3) by decide +kernel) (show pl 7 76 = some (0, 8, 0, 0) by decide +kernel) (by decide) (sh_ok hG (by decide +kernel)) ex1 ?_
  refine e_P (st' := [aI 6, aI x1]) (show decode (mC 61) 7 = .ok (.bipush 6, 2) by decide +kernel) rfl rfl rfl ?_
  refine e_lt2 (t := 21) (show decode (mC 61) 9 = .ok (.if_icmp .lt 12, 3) by decide +kernel) (by decide) s1 (by decide) (fun p1 => ?_) (fun p1 => ?_)
  · refine e_L (L' := [some (aR 119), none, none, none, none]) (st' := [aR 119]) (show decode (mC 61) 21 = .ok (.aload_n 0, 1) by decide +kernel) rfl (by show (if 119 = 0 then none else some (_, _)) = _; rw [if_neg (by decide)]) ?_
    refine e_getR (w := 2) (show decode (mC 61) 22 = .ok (.getfield 9, 3) by decide +kernel) (show pl 7 9 = some (0, 7, 0, 0) by decide +kernel) (by decide) (sh_ok hG (by decide +kernel)) (sh_rf hG (by decide +kernel)) ?_
    exact e_V (as := [aR 2]) (rest := []) (show decode (mC 61) 25 = .ok (.invokevirtual 79, 3) by decide +kernel) (by decide +kernel) (show (decide ((1 : Nat) = mA 98) && decide (98 < q_law)) = true by decide +kernel) rfl (show (0 : Nat) ≤ 8 by decide) (show (1 : Nat) ≤ mL 98 by decide +kernel) rfl (sh_ok hG (by decide +kernel)) (m2 p1)
  · refine e_L (L' := [some (aR 119), none, none, none, none]) (st' := [aR 119]) (show decode (mC 61) 12 = .ok (.aload_n 0, 1) by decide +kernel) rfl (by show (if 119 = 0 then none else some (_, _)) = _; rw [if_neg (by decide)]) ?_
    refine e_getR (w := 2) (show decode (mC 61) 13 = .ok (.getfield 9, 3) by decide +kernel) (show pl 7 9 = some (0, 7, 0, 0) by decide +kernel) (by decide) (sh_ok hG (by decide +kernel)) (sh_rf hG (by decide +kernel)) ?_
    refine e_P (st' := [aI 4, aR 2]) (show decode (mC 61) 16 = .ok (.iconst 4, 1) by decide +kernel) rfl rfl rfl ?_
    exact e_V (as := [aR 2, aI 4]) (rest := []) (show decode (mC 61) 17 = .ok (.invokevirtual 48, 3) by decide +kernel) (by decide +kernel) (show (decide ((2 : Nat) = mA 99) && decide (99 < q_law)) = true by decide +kernel) rfl (show (0 : Nat) ≤ 8 by decide) (show (2 : Nat) ≤ mL 99 by decide +kernel) rfl (sh_ok hG (by decide +kernel)) (tm_le hQ (leN (leS (leS (leS (leS leE))))) (m3 p1))
/-- SoulOffice$OfficeText.readKind()Z, from 20 -/
theorem b61_20 (hG : Shp G) {u0 : Int}
    (s0 : u0 = 0 ∨ u0 = 1)
    (z1 : Q (.inl (some (aI u0))) (G, c)) :
    T (d + 1) 61 20 [none, none, none, none, none] [aI u0] (G, c) Q := by
  exact e_zret (show decode (mC 61) 20 = .ok (.ireturn, 1) by decide +kernel) rfl s0 z1
/-- SoulOffice$OfficeText.readKind()Z, from 28 -/
theorem b61_28 (hG : Shp G) {x1 : Int}
    (ex1 : c 2 13 = x1)
    (m1 : TM d 68 [aR 119] (G, c) (fun r h' => T (d + 1) 61 40 [some (aR 119), some (aL x1), none, none, none] (r.toList ++ []) h' Q)) :
    T (d + 1) 61 28 [some (aR 119), none, none, none, none] [] (G, c) Q := by
  refine e_L (L' := [some (aR 119), none, none, none, none]) (st' := [aR 119]) (show decode (mC 61) 28 = .ok (.aload_n 0, 1) by decide +kernel) rfl (by show (if 119 = 0 then none else some (_, _)) = _; rw [if_neg (by decide)]) ?_
  refine e_getR (w := 2) (show decode (mC 61) 29 = .ok (.getfield 9, 3) by decide +kernel) (show pl 7 9 = some (0, 7, 0, 0) by decide +kernel) (by decide) (sh_ok hG (by decide +kernel)) (sh_rf hG (by decide +kernel)) ?_
  refine e_getLx (show decode (mC 61) 32 = .ok (.getfield 82, 3) by decide +kernel) (show pl 7 82 = some (0, 10, 13, 0) by decide +kernel) (by decide) (sh_ok hG (by decide +kernel)) ex1 ?_
  refine e_L (L' := [some (aR 119), some (aL x1), none, none, none]) (st' := []) (show decode (mC 61) 35 = .ok (.lstore_n 1, 1) by decide +kernel) rfl rfl ?_
  refine e_L (L' := [some (aR 119), some (aL x1), none, none, none]) (st' := [aR 119]) (show decode (mC 61) 36 = .ok (.aload_n 0, 1) by decide +kernel) rfl (by show (if 119 = 0 then none else some (_, _)) = _; rw [if_neg (by decide)]) ?_
  exact e_V (as := [aR 119]) (rest := []) (show decode (mC 61) 37 = .ok (.invokevirtual 86, 3) by decide +kernel) (by decide +kernel) (show (decide ((1 : Nat) = mA 68) && decide (68 < q_law)) = true by decide +kernel) rfl (show (0 : Nat) ≤ 8 by decide) (show (1 : Nat) ≤ mL 68 by decide +kernel) rfl (sh_ok hG (by decide +kernel)) m1
/-- SoulOffice$OfficeText.readKind()Z, from 40 -/
theorem b61_40 (hG : Shp G) {v1 u0 : Int}
    (s0 : -2147483648 ≤ u0 ∧ u0 < 2147483648)
    (m1 : (¬ u0 = 0) → TM d 105 [aR 2, aI 1, aI 60] (G, c) (fun r h' => T (d + 1) 61 55 [some (aR 119), some (aL v1), none, none, none] (r.toList ++ []) h' Q))
    (z2 : (u0 = 0) → Q (.inl (some (aI 0))) (G, c)) :
    T (d + 1) 61 40 [some (aR 119), some (aL v1), none, none, none] [aI u0] (G, c) Q := by
  refine e_ne1 (t := 45) (show decode (mC 61) 40 = .ok (.ifCond .ne 5, 3) by decide +kernel) (by decide) s0 (fun p1 => ?_) (fun p1 => ?_)
  · refine e_L (L' := [some (aR 119), some (aL v1), none, none, none]) (st' := [aR 119]) (show decode (mC 61) 45 = .ok (.aload_n 0, 1) by decide +kernel) rfl (by show (if 119 = 0 then none else some (_, _)) = _; rw [if_neg (by decide)]) ?_
    refine e_getR (w := 2) (show decode (mC 61) 46 = .ok (.getfield 9, 3) by decide +kernel) (show pl 7 9 = some (0, 7, 0, 0) by decide +kernel) (by decide) (sh_ok hG (by decide +kernel)) (sh_rf hG (by decide +kernel)) ?_
    refine e_P (st' := [aI 1, aR 2]) (show decode (mC 61) 49 = .ok (.iconst 1, 1) by decide +kernel) rfl rfl rfl ?_
    refine e_P (st' := [aI 60, aI 1, aR 2]) (show decode (mC 61) 50 = .ok (.bipush 60, 2) by decide +kernel) rfl rfl rfl ?_
    exact e_V (as := [aR 2, aI 1, aI 60]) (rest := []) (show decode (mC 61) 52 = .ok (.invokevirtual 89, 3) by decide +kernel) (by decide +kernel) (show (decide ((3 : Nat) = mA 105) && decide (105 < q_law)) = true by decide +kernel) rfl (show (0 : Nat) ≤ 8 by decide) (show (3 : Nat) ≤ mL 105 by decide +kernel) rfl (sh_ok hG (by decide +kernel)) (m1 p1)
  · refine e_P (st' := [aI 0]) (show decode (mC 61) 43 = .ok (.iconst 0, 1) by decide +kernel) rfl rfl rfl ?_
    exact e_zret (show decode (mC 61) 44 = .ok (.ireturn, 1) by decide +kernel) rfl (by decide) (z2 p1)
/-- SoulOffice$OfficeText.readKind()Z, from 55 -/
theorem b61_55 (hG : Shp G) {v1 u0 : Int}
    (s0 : -2147483648 ≤ u0 ∧ u0 < 2147483648)
    (m1 : (¬ u0 = (-1)) → TM d 105 [aR 2, aI 1, aI 9] (G, c) (fun r h' => T (d + 1) 61 73 [some (aR 119), some (aL v1), none, some (aI u0), none] (r.toList ++ []) h' Q))
    (z2 : (u0 = (-1)) → Q (.inl (some (aI 0))) (G, c)) :
    T (d + 1) 61 55 [some (aR 119), some (aL v1), none, none, none] [aI u0] (G, c) Q := by
  refine e_L (L' := [some (aR 119), some (aL v1), none, some (aI u0), none]) (st' := []) (show decode (mC 61) 55 = .ok (.istore_n 3, 1) by decide +kernel) rfl rfl ?_
  refine e_L (L' := [some (aR 119), some (aL v1), none, some (aI u0), none]) (st' := [aI u0]) (show decode (mC 61) 56 = .ok (.iload_n 3, 1) by decide +kernel) rfl rfl ?_
  refine e_P (st' := [aI (-1), aI u0]) (show decode (mC 61) 57 = .ok (.iconst (-1), 1) by decide +kernel) rfl rfl rfl ?_
  refine e_ne2 (t := 63) (show decode (mC 61) 58 = .ok (.if_icmp .ne 5, 3) by decide +kernel) (by decide) s0 (by decide) (fun p1 => ?_) (fun p1 => ?_)
  · refine e_L (L' := [some (aR 119), some (aL v1), none, some (aI u0), none]) (st' := [aR 119]) (show decode (mC 61) 63 = .ok (.aload_n 0, 1) by decide +kernel) rfl (by show (if 119 = 0 then none else some (_, _)) = _; rw [if_neg (by decide)]) ?_
    refine e_getR (w := 2) (show decode (mC 61) 64 = .ok (.getfield 9, 3) by decide +kernel) (show pl 7 9 = some (0, 7, 0, 0) by decide +kernel) (by decide) (sh_ok hG (by decide +kernel)) (sh_rf hG (by decide +kernel)) ?_
    refine e_P (st' := [aI 1, aR 2]) (show decode (mC 61) 67 = .ok (.iconst 1, 1) by decide +kernel) rfl rfl rfl ?_
    refine e_P (st' := [aI 9, aI 1, aR 2]) (show decode (mC 61) 68 = .ok (.bipush 9, 2) by decide +kernel) rfl rfl rfl ?_
    exact e_V (as := [aR 2, aI 1, aI 9]) (rest := []) (show decode (mC 61) 70 = .ok (.invokevirtual 89, 3) by decide +kernel) (by decide +kernel) (show (decide ((3 : Nat) = mA 105) && decide (105 < q_law)) = true by decide +kernel) rfl (show (0 : Nat) ≤ 8 by decide) (show (3 : Nat) ≤ mL 105 by decide +kernel) rfl (sh_ok hG (by decide +kernel)) (m1 p1)
  · refine e_P (st' := [aI 0]) (show decode (mC 61) 61 = .ok (.iconst 0, 1) by decide +kernel) rfl rfl rfl ?_
    exact e_zret (show decode (mC 61) 62 = .ok (.ireturn, 1) by decide +kernel) rfl (by decide) (z2 p1)
/-- SoulOffice$OfficeText.readKind()Z, from 73 -/
theorem b61_73 (hG : Shp G) {v1 v3 u0 : Int} (hQ : ∀ o o' h', q_eqo o o' → Q o h' → Q o' h')
    (s0 : -2147483648 ≤ u0 ∧ u0 < 2147483648)
    (m1 : (¬ u0 = (-1)) → TM d 76 [aR 18, aL v1, aI v3, aI u0] (G, c) (fun r h' => T (d + 1) 61 94 [none, none, none, none, none] (r.toList ++ []) h' Q))
    (z2 : (u0 = (-1)) → Q (.inl (some (aI 0))) (G, c)) :
    T (d + 1) 61 73 [some (aR 119), some (aL v1), none, some (aI v3), none] [aI u0] (G, c) Q := by
  refine e_L (L' := [some (aR 119), some (aL v1), none, some (aI v3), some (aI u0)]) (st' := []) (show decode (mC 61) 73 = .ok (.istore 4, 2) by decide +kernel) rfl rfl ?_
  refine e_L (L' := [some (aR 119), some (aL v1), none, some (aI v3), some (aI u0)]) (st' := [aI u0]) (show decode (mC 61) 75 = .ok (.iload 4, 2) by decide +kernel) rfl rfl ?_
  refine e_P (st' := [aI (-1), aI u0]) (show decode (mC 61) 77 = .ok (.iconst (-1), 1) by decide +kernel) rfl rfl rfl ?_
  refine e_ne2 (t := 83) (show decode (mC 61) 78 = .ok (.if_icmp .ne 5, 3) by decide +kernel) (by decide) s0 (by decide) (fun p1 => ?_) (fun p1 => ?_)
  · refine e_L (L' := [some (aR 119), some (aL v1), none, some (aI v3), some (aI u0)]) (st' := [aR 119]) (show decode (mC 61) 83 = .ok (.aload_n 0, 1) by decide +kernel) rfl (by show (if 119 = 0 then none else some (_, _)) = _; rw [if_neg (by decide)]) ?_
    refine e_getR (w := 18) (show decode (mC 61) 84 = .ok (.getfield 15, 3) by decide +kernel) (show pl 7 15 = some (0, 7, 1, 0) by decide +kernel) (by decide) (sh_ok hG (by decide +kernel)) (sh_rf hG (by decide +kernel)) ?_
    refine e_L (L' := [some (aR 119), some (aL v1), none, some (aI v3), some (aI u0)]) (st' := [aL v1, aR 18]) (show decode (mC 61) 87 = .ok (.lload_n 1, 1) by decide +kernel) rfl rfl ?_
    refine e_L (L' := [some (aR 119), some (aL v1), none, some (aI v3), some (aI u0)]) (st' := [aI v3, aL v1, aR 18]) (show decode (mC 61) 88 = .ok (.iload_n 3, 1) by decide +kernel) rfl rfl ?_
    refine e_L (L' := [some (aR 119), some (aL v1), none, some (aI v3), some (aI u0)]) (st' := [aI u0, aI v3, aL v1, aR 18]) (show decode (mC 61) 89 = .ok (.iload 4, 2) by decide +kernel) rfl rfl ?_
    exact e_V (as := [aR 18, aL v1, aI v3, aI u0]) (rest := []) (show decode (mC 61) 91 = .ok (.invokevirtual 93, 3) by decide +kernel) (by decide +kernel) (show (decide ((4 : Nat) = mA 76) && decide (76 < q_law)) = true by decide +kernel) rfl (show (0 : Nat) ≤ 8 by decide) (show (5 : Nat) ≤ mL 76 by decide +kernel) rfl (sh_ok hG (by decide +kernel)) (tm_le hQ (leN (leN (leS (leN (leN leE))))) (m1 p1))
  · refine e_P (st' := [aI 0]) (show decode (mC 61) 81 = .ok (.iconst 0, 1) by decide +kernel) rfl rfl rfl ?_
    exact e_zret (show decode (mC 61) 82 = .ok (.ireturn, 1) by decide +kernel) rfl (by decide) (z2 p1)
/-- SoulOffice$OfficeText.readKind()Z, from 94 -/
theorem b61_94 (hG : Shp G)
    (z0 : Q (.inl (some (aI 1))) (G, c)) :
    T (d + 1) 61 94 [none, none, none, none, none] [] (G, c) Q := by
  refine e_P (st' := [aI 1]) (show decode (mC 61) 94 = .ok (.iconst 1, 1) by decide +kernel) rfl rfl rfl ?_
  exact e_zret (show decode (mC 61) 95 = .ok (.ireturn, 1) by decide +kernel) rfl (by decide) z0
/-- SoulOffice$OfficeText.readMeets()Z, from 0 -/
theorem b62_0 (hG : Shp G)
    (m0 : TM d 98 [aR 2] (G, c) (fun r h' => T (d + 1) 62 7 [some (aR 119), none, none, none] (r.toList ++ []) h' Q)) :
    T (d + 1) 62 0 [some (aR 119), none, none, none] [] (G, c) Q := by
  refine e_L (L' := [some (aR 119), none, none, none]) (st' := [aR 119]) (show decode (mC 62) 0 = .ok (.aload_n 0, 1) by decide +kernel) rfl (by show (if 119 = 0 then none else some (_, _)) = _; rw [if_neg (by decide)]) ?_
  refine e_getR (w := 2) (show decode (mC 62) 1 = .ok (.getfield 9, 3) by decide +kernel) (show pl 7 9 = some (0, 7, 0, 0) by decide +kernel) (by decide) (sh_ok hG (by decide +kernel)) (sh_rf hG (by decide +kernel)) ?_
  exact e_V (as := [aR 2]) (rest := []) (show decode (mC 62) 4 = .ok (.invokevirtual 79, 3) by decide +kernel) (by decide +kernel) (show (decide ((1 : Nat) = mA 98) && decide (98 < q_law)) = true by decide +kernel) rfl (show (0 : Nat) ≤ 8 by decide) (show (1 : Nat) ≤ mL 98 by decide +kernel) rfl (sh_ok hG (by decide +kernel)) m0
/-- SoulOffice$OfficeText.readMeets()Z, from 7 -/
theorem b62_7 (hG : Shp G) {x1 : Int}
    (ex1 : c 18 0 = x1)
    (m1 : TM d 107 [aR 2, aR 19, aI x1] (G, c) (fun r h' => T (d + 1) 62 28 [some (aR 119), none, none, none] (r.toList ++ []) h' Q)) :
    T (d + 1) 62 7 [some (aR 119), none, none, none] [] (G, c) Q := by
  refine e_L (L' := [some (aR 119), none, none, none]) (st' := [aR 119]) (show decode (mC 62) 7 = .ok (.aload_n 0, 1) by decide +kernel) rfl (by show (if 119 = 0 then none else some (_, _)) = _; rw [if_neg (by decide)]) ?_
  refine e_getR (w := 2) (show decode (mC 62) 8 = .ok (.getfield 9, 3) by decide +kernel) (show pl 7 9 = some (0, 7, 0, 0) by decide +kernel) (by decide) (sh_ok hG (by decide +kernel)) (sh_rf hG (by decide +kernel)) ?_
  refine e_L (L' := [some (aR 119), none, none, none]) (st' := [aR 119, aR 2]) (show decode (mC 62) 11 = .ok (.aload_n 0, 1) by decide +kernel) rfl (by show (if 119 = 0 then none else some (_, _)) = _; rw [if_neg (by decide)]) ?_
  refine e_getR (w := 18) (show decode (mC 62) 12 = .ok (.getfield 15, 3) by decide +kernel) (show pl 7 15 = some (0, 7, 1, 0) by decide +kernel) (by decide) (sh_ok hG (by decide +kernel)) (sh_rf hG (by decide +kernel)) ?_
  refine e_getR (w := 19) (show decode (mC 62) 15 = .ok (.getfield 97, 3) by decide +kernel) (show pl 7 97 = some (0, 8, 3, 0) by decide +kernel) (by decide) (sh_ok hG (by decide +kernel)) (sh_rf hG (by decide +kernel)) ?_
  refine e_L (L' := [some (aR 119), none, none, none]) (st' := [aR 119, aR 19, aR 2]) (show decode (mC 62) 18 = .ok (.aload_n 0, 1) by decide +kernel) rfl (by show (if 119 = 0 then none else some (_, _)) = _; rw [if_neg (by decide)]) ?_
  refine e_getR (w := 18) (show decode (mC 62) 19 = .ok (.getfield 15, 3) by decide +kernel) (show pl 7 15 = some (0, 7, 1, 0) by decide +kernel) (by decide) (sh_ok hG (by decide +kernel)) (sh_rf hG (by decide +kernel)) ?_
  refine e_getIx (show decode (mC 62) 22 = .ok (.getfield 76, 3) by decide +kernel) (show pl 7 76 = some (0, 8, 0, 0) by decide +kernel) (by decide) (sh_ok hG (by decide +kernel)) ex1 ?_
  exact e_V (as := [aR 2, aR 19, aI x1]) (rest := []) (show decode (mC 62) 25 = .ok (.invokevirtual 101, 3) by decide +kernel) (by decide +kernel) (show (decide ((3 : Nat) = mA 107) && decide (107 < q_law)) = true by decide +kernel) rfl (show (0 : Nat) ≤ 8 by decide) (show (3 : Nat) ≤ mL 107 by decide +kernel) rfl (sh_ok hG (by decide +kernel)) m1
/-- SoulOffice$OfficeText.readMeets()Z, from 28 -/
theorem b62_28 (hG : Shp G) {u0 x1 : Int}
    (s0 : -2147483648 ≤ u0 ∧ u0 < 2147483648)
    (ex1 : c 18 0 = x1)
    (m2 : (¬ u0 = (-1)) → TM d 106 [aR 2, aR 19, aI x1] (G, c) (fun r h' => T (d + 1) 62 57 [some (aR 119), some (aI u0), none, none] (r.toList ++ []) h' Q))
    (z3 : (u0 = (-1)) → Q (.inl (some (aI 0))) (G, c)) :
    T (d + 1) 62 28 [some (aR 119), none, none, none] [aI u0] (G, c) Q := by
  refine e_L (L' := [some (aR 119), some (aI u0), none, none]) (st' := []) (show decode (mC 62) 28 = .ok (.istore_n 1, 1) by decide +kernel) rfl rfl ?_
  refine e_L (L' := [some (aR 119), some (aI u0), none, none]) (st' := [aI u0]) (show decode (mC 62) 29 = .ok (.iload_n 1, 1) by decide +kernel) rfl rfl ?_
  refine e_P (st' := [aI (-1), aI u0]) (show decode (mC 62) 30 = .ok (.iconst (-1), 1) by decide +kernel) rfl rfl rfl ?_
  refine e_ne2 (t := 36) (show decode (mC 62) 31 = .ok (.if_icmp .ne 5, 3) by decide +kernel) (by decide) s0 (by decide) (fun p1 => ?_) (fun p1 => ?_)
  · refine e_L (L' := [some (aR 119), some (aI u0), none, none]) (st' := [aR 119]) (show decode (mC 62) 36 = .ok (.aload_n 0, 1) by decide +kernel) rfl (by show (if 119 = 0 then none else some (_, _)) = _; rw [if_neg (by decide)]) ?_
    refine e_getR (w := 2) (show decode (mC 62) 37 = .ok (.getfield 9, 3) by decide +kernel) (show pl 7 9 = some (0, 7, 0, 0) by decide +kernel) (by decide) (sh_ok hG (by decide +kernel)) (sh_rf hG (by decide +kernel)) ?_
    refine e_L (L' := [some (aR 119), some (aI u0), none, none]) (st' := [aR 119, aR 2]) (show decode (mC 62) 40 = .ok (.aload_n 0, 1) by decide +kernel) rfl (by show (if 119 = 0 then none else some (_, _)) = _; rw [if_neg (by decide)]) ?_
    refine e_getR (w := 18) (show decode (mC 62) 41 = .ok (.getfield 15, 3) by decide +kernel) (show pl 7 15 = some (0, 7, 1, 0) by decide +kernel) (by decide) (sh_ok hG (by decide +kernel)) (sh_rf hG (by decide +kernel)) ?_
    refine e_getR (w := 19) (show decode (mC 62) 44 = .ok (.getfield 97, 3) by decide +kernel) (show pl 7 97 = some (0, 8, 3, 0) by decide +kernel) (by decide) (sh_ok hG (by decide +kernel)) (sh_rf hG (by decide +kernel)) ?_
    refine e_L (L' := [some (aR 119), some (aI u0), none, none]) (st' := [aR 119, aR 19, aR 2]) (show decode (mC 62) 47 = .ok (.aload_n 0, 1) by decide +kernel) rfl (by show (if 119 = 0 then none else some (_, _)) = _; rw [if_neg (by decide)]) ?_
    refine e_getR (w := 18) (show decode (mC 62) 48 = .ok (.getfield 15, 3) by decide +kernel) (show pl 7 15 = some (0, 7, 1, 0) by decide +kernel) (by decide) (sh_ok hG (by decide +kernel)) (sh_rf hG (by decide +kernel)) ?_
    refine e_getIx (show decode (mC 62) 51 = .ok (.getfield 76, 3) by decide +kernel) (show pl 7 76 = some (0, 8, 0, 0) by decide +kernel) (by decide) (sh_ok hG (by decide +kernel)) ex1 ?_
    exact e_V (as := [aR 2, aR 19, aI x1]) (rest := []) (show decode (mC 62) 54 = .ok (.invokevirtual 105, 3) by decide +kernel) (by decide +kernel) (show (decide ((3 : Nat) = mA 106) && decide (106 < q_law)) = true by decide +kernel) rfl (show (0 : Nat) ≤ 8 by decide) (show (3 : Nat) ≤ mL 106 by decide +kernel) rfl (sh_ok hG (by decide +kernel)) (m2 p1)
  · refine e_P (st' := [aI 0]) (show decode (mC 62) 34 = .ok (.iconst 0, 1) by decide +kernel) rfl rfl rfl ?_
    exact e_zret (show decode (mC 62) 35 = .ok (.ireturn, 1) by decide +kernel) rfl (by decide) (z3 p1)
/-- SoulOffice$OfficeText.readMeets()Z, from 57 -/
theorem b62_57 (hG : Shp G) {v1 u0 : Int}
    (s0 : -2147483648 ≤ u0 ∧ u0 < 2147483648)
    (m1 : (¬ u0 = (-1)) → TM d 152 [aI v1, aI u0] (G, c) (fun r h' => T (d + 1) 62 77 [some (aR 119), some (aI v1), some (aI u0), none] (r.toList ++ [aR 23]) h' Q))
    (z2 : (u0 = (-1)) → Q (.inl (some (aI 0))) (G, c)) :
    T (d + 1) 62 57 [some (aR 119), some (aI v1), none, none] [aI u0] (G, c) Q := by
  refine e_L (L' := [some (aR 119), some (aI v1), some (aI u0), none]) (st' := []) (show decode (mC 62) 57 = .ok (.istore_n 2, 1) by decide +kernel) rfl rfl ?_
  refine e_L (L' := [some (aR 119), some (aI v1), some (aI u0), none]) (st' := [aI u0]) (show decode (mC 62) 58 = .ok (.iload_n 2, 1) by decide +kernel) rfl rfl ?_
  refine e_P (st' := [aI (-1), aI u0]) (show decode (mC 62) 59 = .ok (.iconst (-1), 1) by decide +kernel) rfl rfl rfl ?_
  refine e_ne2 (t := 65) (show decode (mC 62) 60 = .ok (.if_icmp .ne 5, 3) by decide +kernel) (by decide) s0 (by decide) (fun p1 => ?_) (fun p1 => ?_)
  · refine e_L (L' := [some (aR 119), some (aI v1), some (aI u0), none]) (st' := [aR 119]) (show decode (mC 62) 65 = .ok (.aload_n 0, 1) by decide +kernel) rfl (by show (if 119 = 0 then none else some (_, _)) = _; rw [if_neg (by decide)]) ?_
    refine e_getR (w := 18) (show decode (mC 62) 66 = .ok (.getfield 15, 3) by decide +kernel) (show pl 7 15 = some (0, 7, 1, 0) by decide +kernel) (by decide) (sh_ok hG (by decide +kernel)) (sh_rf hG (by decide +kernel)) ?_
    refine e_getR (w := 23) (show decode (mC 62) 69 = .ok (.getfield 108, 3) by decide +kernel) (show pl 7 108 = some (0, 8, 7, 0) by decide +kernel) (by decide) (sh_ok hG (by decide +kernel)) (sh_rf hG (by decide +kernel)) ?_
    refine e_L (L' := [some (aR 119), some (aI v1), some (aI u0), none]) (st' := [aI v1, aR 23]) (show decode (mC 62) 72 = .ok (.iload_n 1, 1) by decide +kernel) rfl rfl ?_
    refine e_L (L' := [some (aR 119), some (aI v1), some (aI u0), none]) (st' := [aI u0, aI v1, aR 23]) (show decode (mC 62) 73 = .ok (.iload_n 2, 1) by decide +kernel) rfl rfl ?_
    exact e_S (as := [aI v1, aI u0]) (rest := [aR 23]) (show decode (mC 62) 74 = .ok (.invokestatic 112, 3) by decide +kernel) (by decide +kernel) (show (decide ((2 : Nat) = mA 152) && decide (152 < q_law)) = true by decide +kernel) rfl (show (1 : Nat) ≤ 8 by decide) (show (2 : Nat) ≤ mL 152 by decide +kernel) (m1 p1)
  · refine e_P (st' := [aI 0]) (show decode (mC 62) 63 = .ok (.iconst 0, 1) by decide +kernel) rfl rfl rfl ?_
    exact e_zret (show decode (mC 62) 64 = .ok (.ireturn, 1) by decide +kernel) rfl (by decide) (z2 p1)
/-- SoulOffice$OfficeText.readMeets()Z, from 77 -/
theorem b62_77 (hG : Shp G) {v1 v2 u1 x1 : Int} (hQ : ∀ o o' h', q_eqo o o' → Q o h' → Q o' h')
    (s0 : 0 ≤ u1)
    (s1 : u1 < 36)
    (ex1 : c 23 u1 = x1)
    (s3 : -2147483648 ≤ x1 ∧ x1 < 2147483648)
    (m4 : (x1 = (-1)) → TM d 98 [aR 2] (G, c) (fun r h' => T (d + 1) 62 98 [some (aR 119), some (aI v1), some (aI v2), none] (r.toList ++ []) h' Q))
    (m5 : (¬ x1 = (-1)) → TM d 99 [aR 2, aI 3] (G, c) (fun r h' => T (d + 1) 62 90 [none, none, none, none] (r.toList ++ []) h' Q)) :
    T (d + 1) 62 77 [some (aR 119), some (aI v1), some (aI v2), none] [aI u1, aR 23] (G, c) Q := by
  refine e_ialdx (n := 36) (show decode (mC 62) 77 = .ok (.iaload, 1) by decide +kernel) (sh_ok hG (by decide +kernel)) (sh_ln hG (by decide +kernel)) (by decide) s0 s1 ex1 ?_
  refine e_P (st' := [aI (-1), aI x1]) (show decode (mC 62) 78 = .ok (.iconst (-1), 1) by decide +kernel) rfl rfl rfl ?_
  refine e_eq2 (t := 91) (show decode (mC 62) 79 = .ok (.if_icmp .eq 12, 3) by decide +kernel) (by decide) s3 (by decide) (fun p1 => ?_) (fun p1 => ?_)
  · refine e_L (L' := [some (aR 119), some (aI v1), some (aI v2), none]) (st' := [aR 119]) (show decode (mC 62) 91 = .ok (.aload_n 0, 1) by decide +kernel) rfl (by show (if 119 = 0 then none else some (_, _)) = _; rw [if_neg (by decide)]) ?_
    refine e_getR (w := 2) (show decode (mC 62) 92 = .ok (.getfield 9, 3) by decide +kernel) (show pl 7 9 = some (0, 7, 0, 0) by decide +kernel) (by decide) (sh_ok hG (by decide +kernel)) (sh_rf hG (by decide +kernel)) ?_
    exact e_V (as := [aR 2]) (rest := []) (show decode (mC 62) 95 = .ok (.invokevirtual 79, 3) by decide +kernel) (by decide +kernel) (show (decide ((1 : Nat) = mA 98) && decide (98 < q_law)) = true by decide +kernel) rfl (show (0 : Nat) ≤ 8 by decide) (show (1 : Nat) ≤ mL 98 by decide +kernel) rfl (sh_ok hG (by decide +kernel)) (m4 p1)
  · refine e_L (L' := [some (aR 119), some (aI v1), some (aI v2), none]) (st' := [aR 119]) (show decode (mC 62) 82 = .ok (.aload_n 0, 1) by decide +kernel) rfl (by show (if 119 = 0 then none else some (_, _)) = _; rw [if_neg (by decide)]) ?_
    refine e_getR (w := 2) (show decode (mC 62) 83 = .ok (.getfield 9, 3) by decide +kernel) (show pl 7 9 = some (0, 7, 0, 0) by decide +kernel) (by decide) (sh_ok hG (by decide +kernel)) (sh_rf hG (by decide +kernel)) ?_
    refine e_P (st' := [aI 3, aR 2]) (show decode (mC 62) 86 = .ok (.iconst 3, 1) by decide +kernel) rfl rfl rfl ?_
    exact e_V (as := [aR 2, aI 3]) (rest := []) (show decode (mC 62) 87 = .ok (.invokevirtual 48, 3) by decide +kernel) (by decide +kernel) (show (decide ((2 : Nat) = mA 99) && decide (99 < q_law)) = true by decide +kernel) rfl (show (0 : Nat) ≤ 8 by decide) (show (2 : Nat) ≤ mL 99 by decide +kernel) rfl (sh_ok hG (by decide +kernel)) (tm_le hQ (leN (leN (leN (leS leE)))) (m5 p1))
/-- SoulOffice$OfficeText.readMeets()Z, from 90 -/
theorem b62_90 (hG : Shp G) {u0 : Int}
    (s0 : u0 = 0 ∨ u0 = 1)
    (z1 : Q (.inl (some (aI u0))) (G, c)) :
    T (d + 1) 62 90 [none, none, none, none] [aI u0] (G, c) Q := by
  exact e_zret (show decode (mC 62) 90 = .ok (.ireturn, 1) by decide +kernel) rfl s0 z1
/-- SoulOffice$OfficeText.readMeets()Z, from 98 -/
theorem b62_98 (hG : Shp G) {v1 v2 : Int}
    (m0 : TM d 105 [aR 2, aI 0, aI 99] (G, c) (fun r h' => T (d + 1) 62 108 [some (aR 119), some (aI v1), some (aI v2), none] (r.toList ++ []) h' Q)) :
    T (d + 1) 62 98 [some (aR 119), some (aI v1), some (aI v2), none] [] (G, c) Q := by
  refine e_L (L' := [some (aR 119), some (aI v1), some (aI v2), none]) (st' := [aR 119]) (show decode (mC 62) 98 = .ok (.aload_n 0, 1) by decide +kernel) rfl (by show (if 119 = 0 then none else some (_, _)) = _; rw [if_neg (by decide)]) ?_
  refine e_getR (w := 2) (show decode (mC 62) 99 = .ok (.getfield 9, 3) by decide +kernel) (show pl 7 9 = some (0, 7, 0, 0) by decide +kernel) (by decide) (sh_ok hG (by decide +kernel)) (sh_rf hG (by decide +kernel)) ?_
  refine e_P (st' := [aI 0, aR 2]) (show decode (mC 62) 102 = .ok (.iconst 0, 1) by decide +kernel) rfl rfl rfl ?_
  refine e_P (st' := [aI 99, aI 0, aR 2]) (show decode (mC 62) 103 = .ok (.bipush 99, 2) by decide +kernel) rfl rfl rfl ?_
  exact e_V (as := [aR 2, aI 0, aI 99]) (rest := []) (show decode (mC 62) 105 = .ok (.invokevirtual 89, 3) by decide +kernel) (by decide +kernel) (show (decide ((3 : Nat) = mA 105) && decide (105 < q_law)) = true by decide +kernel) rfl (show (0 : Nat) ≤ 8 by decide) (show (3 : Nat) ≤ mL 105 by decide +kernel) rfl (sh_ok hG (by decide +kernel)) m0
/-- SoulOffice$OfficeText.readMeets()Z, from 108 -/
theorem b62_108 (hG : Shp G) {v1 v2 u0 : Int}
    (s0 : -2147483648 ≤ u0 ∧ u0 < 2147483648)
    (m1 : (¬ u0 = (-1)) → TM d 152 [aI v1, aI v2] (G, c) (fun r h' => T (d + 1) 62 128 [some (aR 119), some (aI v1), some (aI v2), some (aI u0)] (r.toList ++ [aR 23]) h' Q))
    (z2 : (u0 = (-1)) → Q (.inl (some (aI 0))) (G, c)) :
    T (d + 1) 62 108 [some (aR 119), some (aI v1), some (aI v2), none] [aI u0] (G, c) Q := by
  refine e_L (L' := [some (aR 119), some (aI v1), some (aI v2), some (aI u0)]) (st' := []) (show decode (mC 62) 108 = .ok (.istore_n 3, 1) by decide +kernel) rfl rfl ?_
  refine e_L (L' := [some (aR 119), some (aI v1), some (aI v2), some (aI u0)]) (st' := [aI u0]) (show decode (mC 62) 109 = .ok (.iload_n 3, 1) by decide +kernel) rfl rfl ?_
  refine e_P (st' := [aI (-1), aI u0]) (show decode (mC 62) 110 = .ok (.iconst (-1), 1) by decide +kernel) rfl rfl rfl ?_
  refine e_ne2 (t := 116) (show decode (mC 62) 111 = .ok (.if_icmp .ne 5, 3) by decide +kernel) (by decide) s0 (by decide) (fun p1 => ?_) (fun p1 => ?_)
  · refine e_L (L' := [some (aR 119), some (aI v1), some (aI v2), some (aI u0)]) (st' := [aR 119]) (show decode (mC 62) 116 = .ok (.aload_n 0, 1) by decide +kernel) rfl (by show (if 119 = 0 then none else some (_, _)) = _; rw [if_neg (by decide)]) ?_
    refine e_getR (w := 18) (show decode (mC 62) 117 = .ok (.getfield 15, 3) by decide +kernel) (show pl 7 15 = some (0, 7, 1, 0) by decide +kernel) (by decide) (sh_ok hG (by decide +kernel)) (sh_rf hG (by decide +kernel)) ?_
    refine e_getR (w := 23) (show decode (mC 62) 120 = .ok (.getfield 108, 3) by decide +kernel) (show pl 7 108 = some (0, 8, 7, 0) by decide +kernel) (by decide) (sh_ok hG (by decide +kernel)) (sh_rf hG (by decide +kernel)) ?_
    refine e_L (L' := [some (aR 119), some (aI v1), some (aI v2), some (aI u0)]) (st' := [aI v1, aR 23]) (show decode (mC 62) 123 = .ok (.iload_n 1, 1) by decide +kernel) rfl rfl ?_
    refine e_L (L' := [some (aR 119), some (aI v1), some (aI v2), some (aI u0)]) (st' := [aI v2, aI v1, aR 23]) (show decode (mC 62) 124 = .ok (.iload_n 2, 1) by decide +kernel) rfl rfl ?_
    exact e_S (as := [aI v1, aI v2]) (rest := [aR 23]) (show decode (mC 62) 125 = .ok (.invokestatic 112, 3) by decide +kernel) (by decide +kernel) (show (decide ((2 : Nat) = mA 152) && decide (152 < q_law)) = true by decide +kernel) rfl (show (1 : Nat) ≤ 8 by decide) (show (2 : Nat) ≤ mL 152 by decide +kernel) (m1 p1)
  · refine e_P (st' := [aI 0]) (show decode (mC 62) 114 = .ok (.iconst 0, 1) by decide +kernel) rfl rfl rfl ?_
    exact e_zret (show decode (mC 62) 115 = .ok (.ireturn, 1) by decide +kernel) rfl (by decide) (z2 p1)
/-- SoulOffice$OfficeText.readMeets()Z, from 128 -/
theorem b62_128 (hG : Shp G) {v1 v2 v3 u1 : Int} (hQ : ∀ o o' h', q_eqo o o' → Q o h' → Q o' h')
    (s0 : 0 ≤ u1)
    (s1 : u1 < 36)
    (m2 : TM d 152 [aI v2, aI v1] (G, (q_up c 23 u1 v3)) (fun r h' => T (d + 1) 62 142 [none, none, none, some (aI v3)] (r.toList ++ [aR 23]) h' Q)) :
    T (d + 1) 62 128 [some (aR 119), some (aI v1), some (aI v2), some (aI v3)] [aI u1, aR 23] (G, c) Q := by
  refine e_L (L' := [some (aR 119), some (aI v1), some (aI v2), some (aI v3)]) (st' := [aI v3, aI u1, aR 23]) (show decode (mC 62) 128 = .ok (.iload_n 3, 1) by decide +kernel) rfl rfl ?_
  refine e_iast (n := 36) (show decode (mC 62) 129 = .ok (.iastore, 1) by decide +kernel) (sh_ok hG (by decide +kernel)) (sh_ln hG (by decide +kernel)) (by decide) s0 s1 ?_
  refine e_L (L' := [some (aR 119), some (aI v1), some (aI v2), some (aI v3)]) (st' := [aR 119]) (show decode (mC 62) 130 = .ok (.aload_n 0, 1) by decide +kernel) rfl (by show (if 119 = 0 then none else some (_, _)) = _; rw [if_neg (by decide)]) ?_
  refine e_getR (w := 18) (show decode (mC 62) 131 = .ok (.getfield 15, 3) by decide +kernel) (show pl 7 15 = some (0, 7, 1, 0) by decide +kernel) (by decide) (sh_ok hG (by decide +kernel)) (sh_rf hG (by decide +kernel)) ?_
  refine e_getR (w := 23) (show decode (mC 62) 134 = .ok (.getfield 108, 3) by decide +kernel) (show pl 7 108 = some (0, 8, 7, 0) by decide +kernel) (by decide) (sh_ok hG (by decide +kernel)) (sh_rf hG (by decide +kernel)) ?_
  refine e_L (L' := [some (aR 119), some (aI v1), some (aI v2), some (aI v3)]) (st' := [aI v2, aR 23]) (show decode (mC 62) 137 = .ok (.iload_n 2, 1) by decide +kernel) rfl rfl ?_
  refine e_L (L' := [some (aR 119), some (aI v1), some (aI v2), some (aI v3)]) (st' := [aI v1, aI v2, aR 23]) (show decode (mC 62) 138 = .ok (.iload_n 1, 1) by decide +kernel) rfl rfl ?_
  exact e_S (as := [aI v2, aI v1]) (rest := [aR 23]) (show decode (mC 62) 139 = .ok (.invokestatic 112, 3) by decide +kernel) (by decide +kernel) (show (decide ((2 : Nat) = mA 152) && decide (152 < q_law)) = true by decide +kernel) rfl (show (1 : Nat) ≤ 8 by decide) (show (2 : Nat) ≤ mL 152 by decide +kernel) (tm_le hQ (leN (leN (leN (leS leE)))) m2)
/-- SoulOffice$OfficeText.readMeets()Z, from 142 -/
theorem b62_142 (hG : Shp G) {v3 u1 : Int}
    (s0 : 0 ≤ u1)
    (s1 : u1 < 36)
    (z2 : Q (.inl (some (aI 1))) (G, (q_up c 23 u1 v3))) :
    T (d + 1) 62 142 [none, none, none, some (aI v3)] [aI u1, aR 23] (G, c) Q := by
  refine e_L (L' := [none, none, none, some (aI v3)]) (st' := [aI v3, aI u1, aR 23]) (show decode (mC 62) 142 = .ok (.iload_n 3, 1) by decide +kernel) rfl rfl ?_
  refine e_iast (n := 36) (show decode (mC 62) 143 = .ok (.iastore, 1) by decide +kernel) (sh_ok hG (by decide +kernel)) (sh_ln hG (by decide +kernel)) (by decide) s0 s1 ?_
  refine e_P (st' := [aI 1]) (show decode (mC 62) 144 = .ok (.iconst 1, 1) by decide +kernel) rfl rfl rfl ?_
  exact e_zret (show decode (mC 62) 145 = .ok (.ireturn, 1) by decide +kernel) rfl (by decide) z2
/-- SoulOffice$OfficeText.readSoul()Z, from 0 -/
theorem b63_0 (hG : Shp G) {x1 : Int} (hQ : ∀ o o' h', q_eqo o o' → Q o h' → Q o' h')
    (ex1 : c 18 1 = x1)
    (s1 : -2147483648 ≤ x1 ∧ x1 < 2147483648)
    (m2 : (x1 < 8) → TM d 98 [aR 2] (G, c) (fun r h' => T (d + 1) 63 28 [some (aR 119), none, none] (r.toList ++ []) h' Q))
    (m3 : (8 ≤ x1) → TM d 99 [aR 2, aI 4] (G, c) (fun r h' => T (d + 1) 63 20 [none, none, none] (r.toList ++ []) h' Q)) :
    T (d + 1) 63 0 [some (aR 119), none, none] [] (G, c) Q := by
  refine e_L (L' := [some (aR 119), none, none]) (st' := [aR 119]) (show decode (mC 63) 0 = .ok (.aload_n 0, 1) by decide +kernel) rfl (by show (if 119 = 0 then none else some (_, _)) = _; rw [if_neg (by decide)]) ?_
  refine e_getR (w := 18) (show decode (mC 63) 1 = .ok (.getfield 15, 3) by decide +kernel) (show pl 7 15 = some (0, 7, 1, 0) by decide +kernel) (by decide) (sh_ok hG (by decide +kernel)) (sh_rf hG (by decide +kernel)) ?_
  refine e_getIx (show decode (mC 63) 4 = .ok (.getfield 115, 3) by decide +kernel) (show pl 7 115 = some (0, 8, 1, 0) by decide +kernel) (by decide) (sh_ok hG (by decide +kernel)) ex1 ?_
  refine e_P (st' := [aI 8, aI x1]) (show decode (mC 63) 7 = .ok (.bipush 8, 2) by decide +kernel) rfl rfl rfl ?_
  refine e_lt2 (t := 21) (show decode (mC 63) 9 = .ok (.if_icmp .lt 12, 3) by decide +kernel) (by decide) s1 (by decide) (fun p1 => ?_) (fun p1 => ?_)
  · refine e_L (L' := [some (aR 119), none, none]) (st' := [aR 119]) (show decode (mC 63) 21 = .ok (.aload_n 0, 1) by decide +kernel) rfl (by show (if 119 = 0 then none else some (_, _)) = _; rw [if_neg (by decide)]) ?_
    refine e_getR (w := 2) (show decode (mC 63) 22 = .ok (.getfield 9, 3) by decide +kernel) (show pl 7 9 = some (0, 7, 0, 0) by decide +kernel) (by decide) (sh_ok hG (by decide +kernel)) (sh_rf hG (by decide +kernel)) ?_
    exact e_V (as := [aR 2]) (rest := []) (show decode (mC 63) 25 = .ok (.invokevirtual 79, 3) by decide +kernel) (by decide +kernel) (show (decide ((1 : Nat) = mA 98) && decide (98 < q_law)) = true by decide +kernel) rfl (show (0 : Nat) ≤ 8 by decide) (show (1 : Nat) ≤ mL 98 by decide +kernel) rfl (sh_ok hG (by decide +kernel)) (m2 p1)
  · refine e_L (L' := [some (aR 119), none, none]) (st' := [aR 119]) (show decode (mC 63) 12 = .ok (.aload_n 0, 1) by decide +kernel) rfl (by show (if 119 = 0 then none else some (_, _)) = _; rw [if_neg (by decide)]) ?_
    refine e_getR (w := 2) (show decode (mC 63) 13 = .ok (.getfield 9, 3) by decide +kernel) (show pl 7 9 = some (0, 7, 0, 0) by decide +kernel) (by decide) (sh_ok hG (by decide +kernel)) (sh_rf hG (by decide +kernel)) ?_
    refine e_P (st' := [aI 4, aR 2]) (show decode (mC 63) 16 = .ok (.iconst 4, 1) by decide +kernel) rfl rfl rfl ?_
    exact e_V (as := [aR 2, aI 4]) (rest := []) (show decode (mC 63) 17 = .ok (.invokevirtual 48, 3) by decide +kernel) (by decide +kernel) (show (decide ((2 : Nat) = mA 99) && decide (99 < q_law)) = true by decide +kernel) rfl (show (0 : Nat) ≤ 8 by decide) (show (2 : Nat) ≤ mL 99 by decide +kernel) rfl (sh_ok hG (by decide +kernel)) (tm_le hQ (leN (leS (leS leE))) (m3 p1))
/-- SoulOffice$OfficeText.readSoul()Z, from 20 -/
theorem b63_20 (hG : Shp G) {u0 : Int}
    (s0 : u0 = 0 ∨ u0 = 1)
    (z1 : Q (.inl (some (aI u0))) (G, c)) :
    T (d + 1) 63 20 [none, none, none] [aI u0] (G, c) Q := by
  exact e_zret (show decode (mC 63) 20 = .ok (.ireturn, 1) by decide +kernel) rfl s0 z1
/-- SoulOffice$OfficeText.readSoul()Z, from 28 -/
theorem b63_28 (hG : Shp G) {x1 : Int}
    (ex1 : c 2 13 = x1)
    (m1 : TM d 68 [aR 119] (G, c) (fun r h' => T (d + 1) 63 40 [some (aR 119), some (aL x1), none] (r.toList ++ []) h' Q)) :
    T (d + 1) 63 28 [some (aR 119), none, none] [] (G, c) Q := by
  refine e_L (L' := [some (aR 119), none, none]) (st' := [aR 119]) (show decode (mC 63) 28 = .ok (.aload_n 0, 1) by decide +kernel) rfl (by show (if 119 = 0 then none else some (_, _)) = _; rw [if_neg (by decide)]) ?_
  refine e_getR (w := 2) (show decode (mC 63) 29 = .ok (.getfield 9, 3) by decide +kernel) (show pl 7 9 = some (0, 7, 0, 0) by decide +kernel) (by decide) (sh_ok hG (by decide +kernel)) (sh_rf hG (by decide +kernel)) ?_
  refine e_getLx (show decode (mC 63) 32 = .ok (.getfield 82, 3) by decide +kernel) (show pl 7 82 = some (0, 10, 13, 0) by decide +kernel) (by decide) (sh_ok hG (by decide +kernel)) ex1 ?_
  refine e_L (L' := [some (aR 119), some (aL x1), none]) (st' := []) (show decode (mC 63) 35 = .ok (.lstore_n 1, 1) by decide +kernel) rfl rfl ?_
  refine e_L (L' := [some (aR 119), some (aL x1), none]) (st' := [aR 119]) (show decode (mC 63) 36 = .ok (.aload_n 0, 1) by decide +kernel) rfl (by show (if 119 = 0 then none else some (_, _)) = _; rw [if_neg (by decide)]) ?_
  exact e_V (as := [aR 119]) (rest := []) (show decode (mC 63) 37 = .ok (.invokevirtual 86, 3) by decide +kernel) (by decide +kernel) (show (decide ((1 : Nat) = mA 68) && decide (68 < q_law)) = true by decide +kernel) rfl (show (0 : Nat) ≤ 8 by decide) (show (1 : Nat) ≤ mL 68 by decide +kernel) rfl (sh_ok hG (by decide +kernel)) m1
/-- SoulOffice$OfficeText.readSoul()Z, from 40 -/
theorem b63_40 (hG : Shp G) {v1 u0 : Int} (hQ : ∀ o o' h', q_eqo o o' → Q o h' → Q o' h')
    (s0 : -2147483648 ≤ u0 ∧ u0 < 2147483648)
    (m1 : (¬ u0 = 0) → TM d 77 [aR 18, aL v1] (G, c) (fun r h' => T (d + 1) 63 53 [none, none, none] (r.toList ++ []) h' Q))
    (z2 : (u0 = 0) → Q (.inl (some (aI 0))) (G, c)) :
    T (d + 1) 63 40 [some (aR 119), some (aL v1), none] [aI u0] (G, c) Q := by
  refine e_ne1 (t := 45) (show decode (mC 63) 40 = .ok (.ifCond .ne 5, 3) by decide +kernel) (by decide) s0 (fun p1 => ?_) (fun p1 => ?_)
  · refine e_L (L' := [some (aR 119), some (aL v1), none]) (st' := [aR 119]) (show decode (mC 63) 45 = .ok (.aload_n 0, 1) by decide +kernel) rfl (by show (if 119 = 0 then none else some (_, _)) = _; rw [if_neg (by decide)]) ?_
    refine e_getR (w := 18) (show decode (mC 63) 46 = .ok (.getfield 15, 3) by decide +kernel) (show pl 7 15 = some (0, 7, 1, 0) by decide +kernel) (by decide) (sh_ok hG (by decide +kernel)) (sh_rf hG (by decide +kernel)) ?_
    refine e_L (L' := [some (aR 119), some (aL v1), none]) (st' := [aL v1, aR 18]) (show decode (mC 63) 49 = .ok (.lload_n 1, 1) by decide +kernel) rfl rfl ?_
    exact e_V (as := [aR 18, aL v1]) (rest := []) (show decode (mC 63) 50 = .ok (.invokevirtual 118, 3) by decide +kernel) (by decide +kernel) (show (decide ((2 : Nat) = mA 77) && decide (77 < q_law)) = true by decide +kernel) rfl (show (0 : Nat) ≤ 8 by decide) (show (3 : Nat) ≤ mL 77 by decide +kernel) rfl (sh_ok hG (by decide +kernel)) (tm_le hQ (leN (leN (leS leE))) (m1 p1))
  · refine e_P (st' := [aI 0]) (show decode (mC 63) 43 = .ok (.iconst 0, 1) by decide +kernel) rfl rfl rfl ?_
    exact e_zret (show decode (mC 63) 44 = .ok (.ireturn, 1) by decide +kernel) rfl (by decide) (z2 p1)
/-- SoulOffice$OfficeText.readSoul()Z, from 53 -/
theorem b63_53 (hG : Shp G)
    (z0 : Q (.inl (some (aI 1))) (G, c)) :
    T (d + 1) 63 53 [none, none, none] [] (G, c) Q := by
  refine e_P (st' := [aI 1]) (show decode (mC 63) 53 = .ok (.iconst 1, 1) by decide +kernel) rfl rfl rfl ?_
  exact e_zret (show decode (mC 63) 54 = .ok (.ireturn, 1) by decide +kernel) rfl (by decide) z0
end QB6
