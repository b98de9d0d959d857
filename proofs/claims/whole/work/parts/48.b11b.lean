section QB18
variable {d : Nat} {G : GG} {c : CC} {Q : OO → HH → Prop}
/-- SoulOffice.debt(II)I, from 0 -/
theorem b122_0 (hG : Shp G) {v1 v2 : Int}
    (m0 : TM d 71 [aR 9, aI v1] (G, c) (fun r h' => T (d + 1) 122 8 [some (aR 1), some (aI v1), some (aI v2)] (r.toList ++ []) h' Q)) :
    T (d + 1) 122 0 [some (aR 1), some (aI v1), some (aI v2)] [] (G, c) Q := by
  refine e_L (L' := [some (aR 1), some (aI v1), some (aI v2)]) (st' := [aR 1]) (show decode (mC 122) 0 = .ok (.aload_n 0, 1) by decide +kernel) rfl (by show (if 1 = 0 then none else some (_, _)) = _; rw [if_neg (by decide)]) ?_
  refine e_getR (w := 9) (show decode (mC 122) 1 = .ok (.getfield 27, 3) by decide +kernel) (show pl 11 27 = some (0, 11, 1, 0) by decide +kernel) (by decide) (sh_ok hG (by decide +kernel)) (sh_rf hG (by decide +kernel)) ?_
  refine e_L (L' := [some (aR 1), some (aI v1), some (aI v2)]) (st' := [aI v1, aR 9]) (show decode (mC 122) 4 = .ok (.iload_n 1, 1) by decide +kernel) rfl rfl ?_
  exact e_V (as := [aR 9, aI v1]) (rest := []) (show decode (mC 122) 5 = .ok (.invokevirtual 213, 3) by decide +kernel) (by decide +kernel) (show (decide ((2 : Nat) = mA 71) && decide (71 < q_law)) = true by decide +kernel) rfl (show (0 : Nat) ≤ 8 by decide) (show (2 : Nat) ≤ mL 71 by decide +kernel) rfl (sh_ok hG (by decide +kernel)) m0
/-- SoulOffice.debt(II)I, from 8 -/
theorem b122_8 (hG : Shp G) {v1 v2 u0 : Int}
    (s0 : -2147483648 ≤ u0 ∧ u0 < 2147483648)
    (z1 : (u0 = 0) → Q (.inl (some (aI (-1)))) (G, c))
    (m2 : (¬ u0 = 0) → TM d 71 [aR 9, aI v2] (G, c) (fun r h' => T (d + 1) 122 19 [some (aR 1), some (aI v1), some (aI v2)] (r.toList ++ []) h' Q)) :
    T (d + 1) 122 8 [some (aR 1), some (aI v1), some (aI v2)] [aI u0] (G, c) Q := by
  refine e_eq1 (t := 38) (show decode (mC 122) 8 = .ok (.ifCond .eq 30, 3) by decide +kernel) (by decide) s0 (fun p1 => ?_) (fun p1 => ?_)
  · refine e_P (st' := [aI (-1)]) (show decode (mC 122) 38 = .ok (.iconst (-1), 1) by decide +kernel) rfl rfl rfl ?_
    exact e_iret (show decode (mC 122) 39 = .ok (.ireturn, 1) by decide +kernel) rfl (z1 p1)
  · refine e_L (L' := [some (aR 1), some (aI v1), some (aI v2)]) (st' := [aR 1]) (show decode (mC 122) 11 = .ok (.aload_n 0, 1) by decide +kernel) rfl (by show (if 1 = 0 then none else some (_, _)) = _; rw [if_neg (by decide)]) ?_
    refine e_getR (w := 9) (show decode (mC 122) 12 = .ok (.getfield 27, 3) by decide +kernel) (show pl 11 27 = some (0, 11, 1, 0) by decide +kernel) (by decide) (sh_ok hG (by decide +kernel)) (sh_rf hG (by decide +kernel)) ?_
    refine e_L (L' := [some (aR 1), some (aI v1), some (aI v2)]) (st' := [aI v2, aR 9]) (show decode (mC 122) 15 = .ok (.iload_n 2, 1) by decide +kernel) rfl rfl ?_
    exact e_V (as := [aR 9, aI v2]) (rest := []) (show decode (mC 122) 16 = .ok (.invokevirtual 213, 3) by decide +kernel) (by decide +kernel) (show (decide ((2 : Nat) = mA 71) && decide (71 < q_law)) = true by decide +kernel) rfl (show (0 : Nat) ≤ 8 by decide) (show (2 : Nat) ≤ mL 71 by decide +kernel) rfl (sh_ok hG (by decide +kernel)) (m2 p1)
/-- SoulOffice.debt(II)I, from 19 -/
theorem b122_19 (hG : Shp G) {v1 v2 u0 : Int} (hQ : ∀ o o' h', q_eqo o o' → Q o h' → Q o' h')
    (s0 : -2147483648 ≤ u0 ∧ u0 < 2147483648)
    (z1 : (u0 = 0) → Q (.inl (some (aI (-1)))) (G, c))
    (m2 : (¬ u0 = 0) → TM d 151 [aI v1, aI v2] (G, c) (fun r h' => T (d + 1) 122 34 [none, none, none] (r.toList ++ [aR 33]) h' Q)) :
    T (d + 1) 122 19 [some (aR 1), some (aI v1), some (aI v2)] [aI u0] (G, c) Q := by
  refine e_eq1 (t := 38) (show decode (mC 122) 19 = .ok (.ifCond .eq 19, 3) by decide +kernel) (by decide) s0 (fun p1 => ?_) (fun p1 => ?_)
  · refine e_P (st' := [aI (-1)]) (show decode (mC 122) 38 = .ok (.iconst (-1), 1) by decide +kernel) rfl rfl rfl ?_
    exact e_iret (show decode (mC 122) 39 = .ok (.ireturn, 1) by decide +kernel) rfl (z1 p1)
  · refine e_L (L' := [some (aR 1), some (aI v1), some (aI v2)]) (st' := [aR 1]) (show decode (mC 122) 22 = .ok (.aload_n 0, 1) by decide +kernel) rfl (by show (if 1 = 0 then none else some (_, _)) = _; rw [if_neg (by decide)]) ?_
    refine e_getR (w := 27) (show decode (mC 122) 23 = .ok (.getfield 34, 3) by decide +kernel) (show pl 11 34 = some (0, 11, 3, 0) by decide +kernel) (by decide) (sh_ok hG (by decide +kernel)) (sh_rf hG (by decide +kernel)) ?_
    refine e_getR (w := 33) (show decode (mC 122) 26 = .ok (.getfield 243, 3) by decide +kernel) (show pl 11 243 = some (0, 4, 9, 0) by decide +kernel) (by decide) (sh_ok hG (by decide +kernel)) (sh_rf hG (by decide +kernel)) ?_
    refine e_L (L' := [some (aR 1), some (aI v1), some (aI v2)]) (st' := [aI v1, aR 33]) (show decode (mC 122) 29 = .ok (.iload_n 1, 1) by decide +kernel) rfl rfl ?_
    refine e_L (L' := [some (aR 1), some (aI v1), some (aI v2)]) (st' := [aI v2, aI v1, aR 33]) (show decode (mC 122) 30 = .ok (.iload_n 2, 1) by decide +kernel) rfl rfl ?_
    exact e_S (as := [aI v1, aI v2]) (rest := [aR 33]) (show decode (mC 122) 31 = .ok (.invokestatic 246, 3) by decide +kernel) (by decide +kernel) (show (decide ((2 : Nat) = mA 151) && decide (151 < q_law)) = true by decide +kernel) rfl (show (1 : Nat) ≤ 8 by decide) (show (2 : Nat) ≤ mL 151 by decide +kernel) (tm_le hQ (leN (leN (leN leE))) (m2 p1))
/-- SoulOffice.debt(II)I, from 34 -/
theorem b122_34 (hG : Shp G) {u1 x1 : Int}
    (s0 : 0 ≤ u1)
    (s1 : u1 < 64)
    (ex1 : c 33 u1 = x1)
    (z3 : Q (.inl (some (aI x1))) (G, c)) :
    T (d + 1) 122 34 [none, none, none] [aI u1, aR 33] (G, c) Q := by
  refine e_ialdx (n := 64) (show decode (mC 122) 34 = .ok (.iaload, 1) by decide +kernel) (sh_ok hG (by decide +kernel)) (sh_ln hG (by decide +kernel)) (by decide) s0 s1 ex1 ?_
  refine e_go (t := 39) (show decode (mC 122) 35 = .ok (.goto 4, 3) by decide +kernel) (by decide) ?_
  exact e_iret (show decode (mC 122) 39 = .ok (.ireturn, 1) by decide +kernel) rfl z3
/-- SoulOffice.now(I)I, from 0 -/
theorem b123_0 (hG : Shp G) {v1 x1 x2 x3 : Int} (hQ : ∀ o o' h', q_eqo o o' → Q o h' → Q o' h')
    (s0 : -2147483648 ≤ v1 ∧ v1 < 2147483648)
    (z1 : (v1 < 0 ∨ 6 < v1) → Q (.inl (some (aI (-1)))) (G, c))
    (ex1 : c 27 1 = x1)
    (z3 : (v1 = 0) → Q (.inl (some (aI x1))) (G, c))
    (m4 : (v1 = 1) → TM d 24 [aR 27] (G, c) (fun r h' => T (d + 1) 123 59 [none, none] (r.toList ++ []) h' Q))
    (ex2 : c 27 2 = x2)
    (z6 : (v1 = 2) → Q (.inl (some (aI x2))) (G, c))
    (ex3 : c 27 3 = x3)
    (z8 : (v1 = 3) → Q (.inl (some (aI x3))) (G, c))
    (m9 : (v1 = 4) → TM d 26 [aR 27] (G, c) (fun r h' => T (d + 1) 123 83 [none, none] (r.toList ++ []) h' Q))
    (m10 : (v1 = 5) → TM d 27 [aR 27] (G, c) (fun r h' => T (d + 1) 123 91 [none, none] (r.toList ++ []) h' Q))
    (m11 : (v1 = 6) → TM d 25 [aR 27] (G, c) (fun r h' => T (d + 1) 123 99 [none, none] (r.toList ++ []) h' Q)) :
    T (d + 1) 123 0 [some (aR 1), some (aI v1)] [] (G, c) Q := by
  refine e_L (L' := [some (aR 1), some (aI v1)]) (st' := [aI v1]) (show decode (mC 123) 0 = .ok (.iload_n 1, 1) by decide +kernel) rfl rfl ?_
  rcases (show (v1 < 0 ∨ 6 < v1) ∨ v1 = 0 ∨ v1 = 1 ∨ v1 = 2 ∨ v1 = 3 ∨ v1 = 4 ∨ v1 = 5 ∨ v1 = 6 by omega) with p1 | p1 | p1 | p1 | p1 | p1 | p1 | p1
  · refine e_swd (t := 100) (show decode (mC 123) 1 = .ok (.tableswitch 99 0 6 #[43, 51, 59, 67, 75, 83, 91], 43) by decide +kernel) s0 p1 (by decide) ?_
    refine e_P (st' := [aI (-1)]) (show decode (mC 123) 100 = .ok (.iconst (-1), 1) by decide +kernel) rfl rfl rfl ?_
    exact e_iret (show decode (mC 123) 101 = .ok (.ireturn, 1) by decide +kernel) rfl (z1 p1)
  · refine e_swj (off := 43) (t := 44) 0 (show decode (mC 123) 1 = .ok (.tableswitch 99 0 6 #[43, 51, 59, 67, 75, 83, 91], 43) by decide +kernel) p1 (by decide +kernel) ?_
    refine e_L (L' := [some (aR 1), some (aI v1)]) (st' := [aR 1]) (show decode (mC 123) 44 = .ok (.aload_n 0, 1) by decide +kernel) rfl (by show (if 1 = 0 then none else some (_, _)) = _; rw [if_neg (by decide)]) ?_
    refine e_getR (w := 27) (show decode (mC 123) 45 = .ok (.getfield 34, 3) by decide +kernel) (show pl 11 34 = some (0, 11, 3, 0) by decide +kernel) (by decide) (sh_ok hG (by decide +kernel)) (sh_rf hG (by decide +kernel)) ?_
    refine e_getIx (show decode (mC 123) 48 = .ok (.getfield 249, 3) by decide +kernel) (show pl 11 249 = some (0, 4, 1, 0) by decide +kernel) (by decide) (sh_ok hG (by decide +kernel)) ex1 ?_
    exact e_iret (show decode (mC 123) 51 = .ok (.ireturn, 1) by decide +kernel) rfl (z3 p1)
  · refine e_swj (off := 51) (t := 52) 1 (show decode (mC 123) 1 = .ok (.tableswitch 99 0 6 #[43, 51, 59, 67, 75, 83, 91], 43) by decide +kernel) p1 (by decide +kernel) ?_
    refine e_L (L' := [some (aR 1), some (aI v1)]) (st' := [aR 1]) (show decode (mC 123) 52 = .ok (.aload_n 0, 1) by decide +kernel) rfl (by show (if 1 = 0 then none else some (_, _)) = _; rw [if_neg (by decide)]) ?_
    refine e_getR (w := 27) (show decode (mC 123) 53 = .ok (.getfield 34, 3) by decide +kernel) (show pl 11 34 = some (0, 11, 3, 0) by decide +kernel) (by decide) (sh_ok hG (by decide +kernel)) (sh_rf hG (by decide +kernel)) ?_
    exact e_V (as := [aR 27]) (rest := []) (show decode (mC 123) 56 = .ok (.invokevirtual 252, 3) by decide +kernel) (by decide +kernel) (show (decide ((1 : Nat) = mA 24) && decide (24 < q_law)) = true by decide +kernel) rfl (show (0 : Nat) ≤ 8 by decide) (show (1 : Nat) ≤ mL 24 by decide +kernel) rfl (sh_ok hG (by decide +kernel)) (tm_le hQ (leN (leN leE)) (m4 p1))
  · refine e_swj (off := 59) (t := 60) 2 (show decode (mC 123) 1 = .ok (.tableswitch 99 0 6 #[43, 51, 59, 67, 75, 83, 91], 43) by decide +kernel) p1 (by decide +kernel) ?_
    refine e_L (L' := [some (aR 1), some (aI v1)]) (st' := [aR 1]) (show decode (mC 123) 60 = .ok (.aload_n 0, 1) by decide +kernel) rfl (by show (if 1 = 0 then none else some (_, _)) = _; rw [if_neg (by decide)]) ?_
    refine e_getR (w := 27) (show decode (mC 123) 61 = .ok (.getfield 34, 3) by decide +kernel) (show pl 11 34 = some (0, 11, 3, 0) by decide +kernel) (by decide) (sh_ok hG (by decide +kernel)) (sh_rf hG (by decide +kernel)) ?_
    refine e_getIx (show decode (mC 123) 64 = .ok (.getfield 255, 3) by decide +kernel) (show pl 11 255 = some (0, 4, 2, 0) by decide +kernel) (by decide) (sh_ok hG (by decide +kernel)) ex2 ?_
    exact e_iret (show decode (mC 123) 67 = .ok (.ireturn, 1) by decide +kernel) rfl (z6 p1)
  · refine e_swj (off := 67) (t := 68) 3 (show decode (mC 123) 1 = .ok (.tableswitch 99 0 6 #[43, 51, 59, 67, 75, 83, 91], 43) by decide +kernel) p1 (by decide +kernel) ?_
    refine e_L (L' := [some (aR 1), some (aI v1)]) (st' := [aR 1]) (show decode (mC 123) 68 = .ok (.aload_n 0, 1) by decide +kernel) rfl (by show (if 1 = 0 then none else some (_, _)) = _; rw [if_neg (by decide)]) ?_
    refine e_getR (w := 27) (show decode (mC 123) 69 = .ok (.getfield 34, 3) by decide +kernel) (show pl 11 34 = some (0, 11, 3, 0) by decide +kernel) (by decide) (sh_ok hG (by decide +kernel)) (sh_rf hG (by decide +kernel)) ?_
    refine e_getIx (show decode (mC 123) 72 = .ok (.getfield 258, 3) by decide +kernel) (show pl 11 258 = some (0, 4, 3, 0) by decide +kernel) (by decide) (sh_ok hG (by decide +kernel)) ex3 ?_
    exact e_iret (show decode (mC 123) 75 = .ok (.ireturn, 1) by decide +kernel) rfl (z8 p1)
  · refine e_swj (off := 75) (t := 76) 4 (show decode (mC 123) 1 = .ok (.tableswitch 99 0 6 #[43, 51, 59, 67, 75, 83, 91], 43) by decide +kernel) p1 (by decide +kernel) ?_
    refine e_L (L' := [some (aR 1), some (aI v1)]) (st' := [aR 1]) (show decode (mC 123) 76 = .ok (.aload_n 0, 1) by decide +kernel) rfl (by show (if 1 = 0 then none else some (_, _)) = _; rw [if_neg (by decide)]) ?_
    refine e_getR (w := 27) (show decode (mC 123) 77 = .ok (.getfield 34, 3) by decide +kernel) (show pl 11 34 = some (0, 11, 3, 0) by decide +kernel) (by decide) (sh_ok hG (by decide +kernel)) (sh_rf hG (by decide +kernel)) ?_
    exact e_V (as := [aR 27]) (rest := []) (show decode (mC 123) 80 = .ok (.invokevirtual 261, 3) by decide +kernel) (by decide +kernel) (show (decide ((1 : Nat) = mA 26) && decide (26 < q_law)) = true by decide +kernel) rfl (show (0 : Nat) ≤ 8 by decide) (show (1 : Nat) ≤ mL 26 by decide +kernel) rfl (sh_ok hG (by decide +kernel)) (tm_le hQ (leN (leN leE)) (m9 p1))
  · refine e_swj (off := 83) (t := 84) 5 (show decode (mC 123) 1 = .ok (.tableswitch 99 0 6 #[43, 51, 59, 67, 75, 83, 91], 43) by decide +kernel) p1 (by decide +kernel) ?_
    refine e_L (L' := [some (aR 1), some (aI v1)]) (st' := [aR 1]) (show decode (mC 123) 84 = .ok (.aload_n 0, 1) by decide +kernel) rfl (by show (if 1 = 0 then none else some (_, _)) = _; rw [if_neg (by decide)]) ?_
    refine e_getR (w := 27) (show decode (mC 123) 85 = .ok (.getfield 34, 3) by decide +kernel) (show pl 11 34 = some (0, 11, 3, 0) by decide +kernel) (by decide) (sh_ok hG (by decide +kernel)) (sh_rf hG (by decide +kernel)) ?_
    exact e_V (as := [aR 27]) (rest := []) (show decode (mC 123) 88 = .ok (.invokevirtual 264, 3) by decide +kernel) (by decide +kernel) (show (decide ((1 : Nat) = mA 27) && decide (27 < q_law)) = true by decide +kernel) rfl (show (0 : Nat) ≤ 8 by decide) (show (1 : Nat) ≤ mL 27 by decide +kernel) rfl (sh_ok hG (by decide +kernel)) (tm_le hQ (leN (leN leE)) (m10 p1))
  · refine e_swj (off := 91) (t := 92) 6 (show decode (mC 123) 1 = .ok (.tableswitch 99 0 6 #[43, 51, 59, 67, 75, 83, 91], 43) by decide +kernel) p1 (by decide +kernel) ?_
    refine e_L (L' := [some (aR 1), some (aI v1)]) (st' := [aR 1]) (show decode (mC 123) 92 = .ok (.aload_n 0, 1) by decide +kernel) rfl (by show (if 1 = 0 then none else some (_, _)) = _; rw [if_neg (by decide)]) ?_
    refine e_getR (w := 27) (show decode (mC 123) 93 = .ok (.getfield 34, 3) by decide +kernel) (show pl 11 34 = some (0, 11, 3, 0) by decide +kernel) (by decide) (sh_ok hG (by decide +kernel)) (sh_rf hG (by decide +kernel)) ?_
    exact e_V (as := [aR 27]) (rest := []) (show decode (mC 123) 96 = .ok (.invokevirtual 267, 3) by decide +kernel) (by decide +kernel) (show (decide ((1 : Nat) = mA 25) && decide (25 < q_law)) = true by decide +kernel) rfl (show (0 : Nat) ≤ 8 by decide) (show (1 : Nat) ≤ mL 25 by decide +kernel) rfl (sh_ok hG (by decide +kernel)) (tm_le hQ (leN (leN leE)) (m11 p1))
/-- SoulOffice.now(I)I, from 59 -/
theorem b123_59 (hG : Shp G) {u0 : Int}
    (z0 : Q (.inl (some (aI u0))) (G, c)) :
    T (d + 1) 123 59 [none, none] [aI u0] (G, c) Q := by
  exact e_iret (show decode (mC 123) 59 = .ok (.ireturn, 1) by decide +kernel) rfl z0
/-- SoulOffice.now(I)I, from 83 -/
theorem b123_83 (hG : Shp G) {u0 : Int}
    (z0 : Q (.inl (some (aI u0))) (G, c)) :
    T (d + 1) 123 83 [none, none] [aI u0] (G, c) Q := by
  exact e_iret (show decode (mC 123) 83 = .ok (.ireturn, 1) by decide +kernel) rfl z0
/-- SoulOffice.now(I)I, from 91 -/
theorem b123_91 (hG : Shp G) {u0 : Int}
    (z0 : Q (.inl (some (aI u0))) (G, c)) :
    T (d + 1) 123 91 [none, none] [aI u0] (G, c) Q := by
  exact e_iret (show decode (mC 123) 91 = .ok (.ireturn, 1) by decide +kernel) rfl z0
/-- SoulOffice.now(I)I, from 99 -/
theorem b123_99 (hG : Shp G) {u0 : Int}
    (z0 : Q (.inl (some (aI u0))) (G, c)) :
    T (d + 1) 123 99 [none, none] [aI u0] (G, c) Q := by
  exact e_iret (show decode (mC 123) 99 = .ok (.ireturn, 1) by decide +kernel) rfl z0
/-- SoulOffice.settled(II)I, from 0 -/
theorem b124_0 (hG : Shp G) {v1 v2 : Int}
    (m0 : TM d 71 [aR 9, aI v1] (G, c) (fun r h' => T (d + 1) 124 8 [some (aR 1), some (aI v1), some (aI v2)] (r.toList ++ []) h' Q)) :
    T (d + 1) 124 0 [some (aR 1), some (aI v1), some (aI v2)] [] (G, c) Q := by
  refine e_L (L' := [some (aR 1), some (aI v1), some (aI v2)]) (st' := [aR 1]) (show decode (mC 124) 0 = .ok (.aload_n 0, 1) by decide +kernel) rfl (by show (if 1 = 0 then none else some (_, _)) = _; rw [if_neg (by decide)]) ?_
  refine e_getR (w := 9) (show decode (mC 124) 1 = .ok (.getfield 27, 3) by decide +kernel) (show pl 11 27 = some (0, 11, 1, 0) by decide +kernel) (by decide) (sh_ok hG (by decide +kernel)) (sh_rf hG (by decide +kernel)) ?_
  refine e_L (L' := [some (aR 1), some (aI v1), some (aI v2)]) (st' := [aI v1, aR 9]) (show decode (mC 124) 4 = .ok (.iload_n 1, 1) by decide +kernel) rfl rfl ?_
  exact e_V (as := [aR 9, aI v1]) (rest := []) (show decode (mC 124) 5 = .ok (.invokevirtual 213, 3) by decide +kernel) (by decide +kernel) (show (decide ((2 : Nat) = mA 71) && decide (71 < q_law)) = true by decide +kernel) rfl (show (0 : Nat) ≤ 8 by decide) (show (2 : Nat) ≤ mL 71 by decide +kernel) rfl (sh_ok hG (by decide +kernel)) m0
/-- SoulOffice.settled(II)I, from 8 -/
theorem b124_8 (hG : Shp G) {v1 v2 u0 : Int}
    (s0 : -2147483648 ≤ u0 ∧ u0 < 2147483648)
    (z1 : (u0 = 0) → Q (.inl (some (aI (-1)))) (G, c))
    (m2 : (¬ u0 = 0) → TM d 71 [aR 9, aI v2] (G, c) (fun r h' => T (d + 1) 124 19 [some (aR 1), some (aI v1), some (aI v2)] (r.toList ++ []) h' Q)) :
    T (d + 1) 124 8 [some (aR 1), some (aI v1), some (aI v2)] [aI u0] (G, c) Q := by
  refine e_eq1 (t := 38) (show decode (mC 124) 8 = .ok (.ifCond .eq 30, 3) by decide +kernel) (by decide) s0 (fun p1 => ?_) (fun p1 => ?_)
  · refine e_P (st' := [aI (-1)]) (show decode (mC 124) 38 = .ok (.iconst (-1), 1) by decide +kernel) rfl rfl rfl ?_
    exact e_iret (show decode (mC 124) 39 = .ok (.ireturn, 1) by decide +kernel) rfl (z1 p1)
  · refine e_L (L' := [some (aR 1), some (aI v1), some (aI v2)]) (st' := [aR 1]) (show decode (mC 124) 11 = .ok (.aload_n 0, 1) by decide +kernel) rfl (by show (if 1 = 0 then none else some (_, _)) = _; rw [if_neg (by decide)]) ?_
    refine e_getR (w := 9) (show decode (mC 124) 12 = .ok (.getfield 27, 3) by decide +kernel) (show pl 11 27 = some (0, 11, 1, 0) by decide +kernel) (by decide) (sh_ok hG (by decide +kernel)) (sh_rf hG (by decide +kernel)) ?_
    refine e_L (L' := [some (aR 1), some (aI v1), some (aI v2)]) (st' := [aI v2, aR 9]) (show decode (mC 124) 15 = .ok (.iload_n 2, 1) by decide +kernel) rfl rfl ?_
    exact e_V (as := [aR 9, aI v2]) (rest := []) (show decode (mC 124) 16 = .ok (.invokevirtual 213, 3) by decide +kernel) (by decide +kernel) (show (decide ((2 : Nat) = mA 71) && decide (71 < q_law)) = true by decide +kernel) rfl (show (0 : Nat) ≤ 8 by decide) (show (2 : Nat) ≤ mL 71 by decide +kernel) rfl (sh_ok hG (by decide +kernel)) (m2 p1)
/-- SoulOffice.settled(II)I, from 19 -/
theorem b124_19 (hG : Shp G) {v1 v2 u0 x1 : Int} (hQ : ∀ o o' h', q_eqo o o' → Q o h' → Q o' h')
    (s0 : -2147483648 ≤ u0 ∧ u0 < 2147483648)
    (z1 : (u0 = 0) → Q (.inl (some (aI (-1)))) (G, c))
    (s2 : (¬ u0 = 0) → -2147483648 ≤ v1 ∧ v1 < 2147483648)
    (s3 : (¬ u0 = 0) → -2147483648 ≤ v2 ∧ v2 < 2147483648)
    (z4 : (¬ u0 = 0) → (v1 = v2) → Q (.inl (some (aI (-1)))) (G, c))
    (ex1 : c 27 1 = x1)
    (s6 : (¬ u0 = 0) → (¬ v1 = v2) → -2147483648 ≤ x1 ∧ x1 < 2147483648)
    (m7 : (¬ u0 = 0) → (¬ v1 = v2) → (1 ≤ x1) → TM d 151 [aI (if v2 < v1 then v2 else v1), aI (if v1 < v2 then v2 else v1)] (G, c) (fun r h' => T (d + 1) 124 60 [none, none, none] (r.toList ++ [aR 34]) h' Q))
    (z8 : (¬ u0 = 0) → (¬ v1 = v2) → (x1 < 1) → Q (.inl (some (aI (-1)))) (G, c)) :
    T (d + 1) 124 19 [some (aR 1), some (aI v1), some (aI v2)] [aI u0] (G, c) Q := by
  refine e_eq1 (t := 38) (show decode (mC 124) 19 = .ok (.ifCond .eq 19, 3) by decide +kernel) (by decide) s0 (fun p1 => ?_) (fun p1 => ?_)
  · refine e_P (st' := [aI (-1)]) (show decode (mC 124) 38 = .ok (.iconst (-1), 1) by decide +kernel) rfl rfl rfl ?_
    exact e_iret (show decode (mC 124) 39 = .ok (.ireturn, 1) by decide +kernel) rfl (z1 p1)
  · refine e_L (L' := [some (aR 1), some (aI v1), some (aI v2)]) (st' := [aI v1]) (show decode (mC 124) 22 = .ok (.iload_n 1, 1) by decide +kernel) rfl rfl ?_
    refine e_L (L' := [some (aR 1), some (aI v1), some (aI v2)]) (st' := [aI v2, aI v1]) (show decode (mC 124) 23 = .ok (.iload_n 2, 1) by decide +kernel) rfl rfl ?_
    refine e_eq2 (t := 38) (show decode (mC 124) 24 = .ok (.if_icmp .eq 14, 3) by decide +kernel) (by decide) (s2 p1) (s3 p1) (fun p2 => ?_) (fun p2 => ?_)
    · refine e_P (st' := [aI (-1)]) (show decode (mC 124) 38 = .ok (.iconst (-1), 1) by decide +kernel) rfl rfl rfl ?_
      exact e_iret (show decode (mC 124) 39 = .ok (.ireturn, 1) by decide +kernel) rfl (z4 p1 p2)
    · refine e_L (L' := [some (aR 1), some (aI v1), some (aI v2)]) (st' := [aR 1]) (show decode (mC 124) 27 = .ok (.aload_n 0, 1) by decide +kernel) rfl (by show (if 1 = 0 then none else some (_, _)) = _; rw [if_neg (by decide)]) ?_
      refine e_getR (w := 27) (show decode (mC 124) 28 = .ok (.getfield 34, 3) by decide +kernel) (show pl 11 34 = some (0, 11, 3, 0) by decide +kernel) (by decide) (sh_ok hG (by decide +kernel)) (sh_rf hG (by decide +kernel)) ?_
      refine e_getIx (show decode (mC 124) 31 = .ok (.getfield 249, 3) by decide +kernel) (show pl 11 249 = some (0, 4, 1, 0) by decide +kernel) (by decide) (sh_ok hG (by decide +kernel)) ex1 ?_
      refine e_P (st' := [aI 1, aI x1]) (show decode (mC 124) 34 = .ok (.iconst 1, 1) by decide +kernel) rfl rfl rfl ?_
      refine e_ge2 (t := 40) (show decode (mC 124) 35 = .ok (.if_icmp .ge 5, 3) by decide +kernel) (by decide) (s6 p1 p2) (by decide) (fun p3 => ?_) (fun p3 => ?_)
      · refine e_L (L' := [some (aR 1), some (aI v1), some (aI v2)]) (st' := [aR 1]) (show decode (mC 124) 40 = .ok (.aload_n 0, 1) by decide +kernel) rfl (by show (if 1 = 0 then none else some (_, _)) = _; rw [if_neg (by decide)]) ?_
        refine e_getR (w := 27) (show decode (mC 124) 41 = .ok (.getfield 34, 3) by decide +kernel) (show pl 11 34 = some (0, 11, 3, 0) by decide +kernel) (by decide) (sh_ok hG (by decide +kernel)) (sh_rf hG (by decide +kernel)) ?_
        refine e_getR (w := 34) (show decode (mC 124) 44 = .ok (.getfield 270, 3) by decide +kernel) (show pl 11 270 = some (0, 4, 10, 0) by decide +kernel) (by decide) (sh_ok hG (by decide +kernel)) (sh_rf hG (by decide +kernel)) ?_
        refine e_L (L' := [some (aR 1), some (aI v1), some (aI v2)]) (st' := [aI v1, aR 34]) (show decode (mC 124) 47 = .ok (.iload_n 1, 1) by decide +kernel) rfl rfl ?_
        refine e_L (L' := [some (aR 1), some (aI v1), some (aI v2)]) (st' := [aI v2, aI v1, aR 34]) (show decode (mC 124) 48 = .ok (.iload_n 2, 1) by decide +kernel) rfl rfl ?_
        refine e_min (show decode (mC 124) 49 = .ok (.invokestatic 273, 3) by decide +kernel) (show pl 11 273 = some (16, 0, 0, 0) by decide +kernel) (s2 p1) (s3 p1) (show (1 : Nat) ≤ 20 by decide) ?_
        refine e_L (L' := [some (aR 1), some (aI v1), some (aI v2)]) (st' := [aI v1, aI (if v2 < v1 then v2 else v1), aR 34]) (show decode (mC 124) 52 = .ok (.iload_n 1, 1) by decide +kernel) rfl rfl ?_
        refine e_L (L' := [some (aR 1), some (aI v1), some (aI v2)]) (st' := [aI v2, aI v1, aI (if v2 < v1 then v2 else v1), aR 34]) (show decode (mC 124) 53 = .ok (.iload_n 2, 1) by decide +kernel) rfl rfl ?_
        refine e_max (show decode (mC 124) 54 = .ok (.invokestatic 278, 3) by decide +kernel) (show pl 11 278 = some (15, 0, 0, 0) by decide +kernel) (s2 p1) (s3 p1) (show (2 : Nat) ≤ 20 by decide) ?_
        exact e_S (as := [aI (if v2 < v1 then v2 else v1), aI (if v1 < v2 then v2 else v1)]) (rest := [aR 34]) (show decode (mC 124) 57 = .ok (.invokestatic 246, 3) by decide +kernel) (by decide +kernel) (show (decide ((2 : Nat) = mA 151) && decide (151 < q_law)) = true by decide +kernel) rfl (show (1 : Nat) ≤ 8 by decide) (show (2 : Nat) ≤ mL 151 by decide +kernel) (tm_le hQ (leN (leN (leN leE))) (m7 p1 p2 p3))
      · refine e_P (st' := [aI (-1)]) (show decode (mC 124) 38 = .ok (.iconst (-1), 1) by decide +kernel) rfl rfl rfl ?_
        exact e_iret (show decode (mC 124) 39 = .ok (.ireturn, 1) by decide +kernel) rfl (z8 p1 p2 p3)
/-- SoulOffice.settled(II)I, from 60 -/
theorem b124_60 (hG : Shp G) {u1 x1 : Int}
    (s0 : 0 ≤ u1)
    (s1 : u1 < 64)
    (ex1 : c 34 u1 = x1)
    (z3 : Q (.inl (some (aI x1))) (G, c)) :
    T (d + 1) 124 60 [none, none, none] [aI u1, aR 34] (G, c) Q := by
  refine e_ialdx (n := 64) (show decode (mC 124) 60 = .ok (.iaload, 1) by decide +kernel) (sh_ok hG (by decide +kernel)) (sh_ln hG (by decide +kernel)) (by decide) s0 s1 ex1 ?_
  exact e_iret (show decode (mC 124) 61 = .ok (.ireturn, 1) by decide +kernel) rfl z3
/-- SoulOffice.greatest(I)I, from 0 -/
theorem b125_0 (hG : Shp G) {v1 : Int}
    (s0 : -2147483648 ≤ v1 ∧ v1 < 2147483648)
    (z1 : (v1 < 0) → Q (.inl (some (aI (-1)))) (G, c))
    (k2 : (0 ≤ v1) → (v1 ≤ 2) → T (d + 1) 125 18 [some (aR 1), some (aI v1), some (aI (-1)), some (aI (-1)), some (aI 0), none] [] (G, c) Q)
    (z3 : (0 ≤ v1) → (2 < v1) → Q (.inl (some (aI (-1)))) (G, c)) :
    T (d + 1) 125 0 [some (aR 1), some (aI v1), none, none, none, none] [] (G, c) Q := by
  refine e_L (L' := [some (aR 1), some (aI v1), none, none, none, none]) (st' := [aI v1]) (show decode (mC 125) 0 = .ok (.iload_n 1, 1) by decide +kernel) rfl rfl ?_
  refine e_lt1 (t := 9) (show decode (mC 125) 1 = .ok (.ifCond .lt 8, 3) by decide +kernel) (by decide) s0 (fun p1 => ?_) (fun p1 => ?_)
  · refine e_P (st' := [aI (-1)]) (show decode (mC 125) 9 = .ok (.iconst (-1), 1) by decide +kernel) rfl rfl rfl ?_
    exact e_iret (show decode (mC 125) 10 = .ok (.ireturn, 1) by decide +kernel) rfl (z1 p1)
  · refine e_L (L' := [some (aR 1), some (aI v1), none, none, none, none]) (st' := [aI v1]) (show decode (mC 125) 4 = .ok (.iload_n 1, 1) by decide +kernel) rfl rfl ?_
    refine e_P (st' := [aI 2, aI v1]) (show decode (mC 125) 5 = .ok (.iconst 2, 1) by decide +kernel) rfl rfl rfl ?_
    refine e_le2 (t := 11) (show decode (mC 125) 6 = .ok (.if_icmp .le 5, 3) by decide +kernel) (by decide) s0 (by decide) (fun p2 => ?_) (fun p2 => ?_)
    · refine e_P (st' := [aI (-1)]) (show decode (mC 125) 11 = .ok (.iconst (-1), 1) by decide +kernel) rfl rfl rfl ?_
      refine e_L (L' := [some (aR 1), some (aI v1), some (aI (-1)), none, none, none]) (st' := []) (show decode (mC 125) 12 = .ok (.istore_n 2, 1) by decide +kernel) rfl rfl ?_
      refine e_P (st' := [aI (-1)]) (show decode (mC 125) 13 = .ok (.iconst (-1), 1) by decide +kernel) rfl rfl rfl ?_
      refine e_L (L' := [some (aR 1), some (aI v1), some (aI (-1)), some (aI (-1)), none, none]) (st' := []) (show decode (mC 125) 14 = .ok (.istore_n 3, 1) by decide +kernel) rfl rfl ?_
      refine e_P (st' := [aI 0]) (show decode (mC 125) 15 = .ok (.iconst 0, 1) by decide +kernel) rfl rfl rfl ?_
      refine e_L (L' := [some (aR 1), some (aI v1), some (aI (-1)), some (aI (-1)), some (aI 0), none]) (st' := []) (show decode (mC 125) 16 = .ok (.istore 4, 2) by decide +kernel) rfl rfl ?_
      exact (k2 p1 p2)
    · refine e_P (st' := [aI (-1)]) (show decode (mC 125) 9 = .ok (.iconst (-1), 1) by decide +kernel) rfl rfl rfl ?_
      exact e_iret (show decode (mC 125) 10 = .ok (.ireturn, 1) by decide +kernel) rfl (z3 p1 p2)
/-- SoulOffice.greatest(I)I, from 18 -/
theorem b125_18 (hG : Shp G) {v1 v2 v3 v4 x1 x2 : Int} (hQ : ∀ o o' h', q_eqo o o' → Q o h' → Q o' h')
    (ex1 : c 9 1 = x1)
    (s1 : -2147483648 ≤ v4 ∧ v4 < 2147483648)
    (s2 : -2147483648 ≤ x1 ∧ x1 < 2147483648)
    (z3 : (x1 ≤ v4) → Q (.inl (some (aI v2))) (G, c))
    (s4 : (v4 < x1) → -2147483648 ≤ v1 ∧ v1 < 2147483648)
    (s5 : (v4 < x1) → (¬ v1 = 0) → (¬ v1 = 1) → 0 ≤ v4)
    (s6 : (v4 < x1) → (¬ v1 = 0) → (¬ v1 = 1) → v4 < 8)
    (ex2 : c 30 v4 = x2)
    (s8 : (v4 < x1) → (¬ v1 = 0) → (¬ v1 = 1) → -2147483648 ≤ x2 ∧ x2 < 2147483648)
    (s9 : (v4 < x1) → (¬ v1 = 0) → (¬ v1 = 1) → -2147483648 ≤ v3 ∧ v3 < 2147483648)
    (k10 : (v4 < x1) → (¬ v1 = 0) → (¬ v1 = 1) → (x2 ≤ v3) → T (d + 1) 125 18 [some (aR 1), some (aI v1), some (aI v2), some (aI v3), some (aI (v4 + 1)), none] [] (G, c) Q)
    (k11 : (v4 < x1) → (¬ v1 = 0) → (¬ v1 = 1) → (v3 < x2) → T (d + 1) 125 18 [some (aR 1), some (aI v1), some (aI v4), some (aI x2), some (aI (v4 + 1)), none] [] (G, c) Q)
    (m12 : (v4 < x1) → (¬ v1 = 0) → (v1 = 1) → TM d 23 [aR 27, aI v4] (G, c) (fun r h' => T (d + 1) 125 60 [some (aR 1), some (aI v1), some (aI v2), some (aI v3), some (aI v4), none] (r.toList ++ []) h' Q))
    (m13 : (v4 < x1) → (v1 = 0) → TM d 22 [aR 27, aI v4] (G, c) (fun r h' => T (d + 1) 125 43 [some (aR 1), some (aI v1), some (aI v2), some (aI v3), some (aI v4), none] (r.toList ++ []) h' Q)) :
    T (d + 1) 125 18 [some (aR 1), some (aI v1), some (aI v2), some (aI v3), some (aI v4), none] [] (G, c) Q := by
  refine e_L (L' := [some (aR 1), some (aI v1), some (aI v2), some (aI v3), some (aI v4), none]) (st' := [aI v4]) (show decode (mC 125) 18 = .ok (.iload 4, 2) by decide +kernel) rfl rfl ?_
  refine e_L (L' := [some (aR 1), some (aI v1), some (aI v2), some (aI v3), some (aI v4), none]) (st' := [aR 1, aI v4]) (show decode (mC 125) 20 = .ok (.aload_n 0, 1) by decide +kernel) rfl (by show (if 1 = 0 then none else some (_, _)) = _; rw [if_neg (by decide)]) ?_
  refine e_getR (w := 9) (show decode (mC 125) 21 = .ok (.getfield 27, 3) by decide +kernel) (show pl 11 27 = some (0, 11, 1, 0) by decide +kernel) (by decide) (sh_ok hG (by decide +kernel)) (sh_rf hG (by decide +kernel)) ?_
  refine e_getIx (show decode (mC 125) 24 = .ok (.getfield 181, 3) by decide +kernel) (show pl 11 181 = some (0, 8, 1, 0) by decide +kernel) (by decide) (sh_ok hG (by decide +kernel)) ex1 ?_
  refine e_ge2 (t := 93) (show decode (mC 125) 27 = .ok (.if_icmp .ge 66, 3) by decide +kernel) (by decide) s1 s2 (fun p1 => ?_) (fun p1 => ?_)
  · refine e_L (L' := [some (aR 1), some (aI v1), some (aI v2), some (aI v3), some (aI v4), none]) (st' := [aI v2]) (show decode (mC 125) 93 = .ok (.iload_n 2, 1) by decide +kernel) rfl rfl ?_
    exact e_iret (show decode (mC 125) 94 = .ok (.ireturn, 1) by decide +kernel) rfl (z3 p1)
  · refine e_L (L' := [some (aR 1), some (aI v1), some (aI v2), some (aI v3), some (aI v4), none]) (st' := [aI v1]) (show decode (mC 125) 30 = .ok (.iload_n 1, 1) by decide +kernel) rfl rfl ?_
    refine e_ne1 (t := 46) (show decode (mC 125) 31 = .ok (.ifCond .ne 15, 3) by decide +kernel) (by decide) (s4 p1) (fun p2 => ?_) (fun p2 => ?_)
    · refine e_L (L' := [some (aR 1), some (aI v1), some (aI v2), some (aI v3), some (aI v4), none]) (st' := [aI v1]) (show decode (mC 125) 46 = .ok (.iload_n 1, 1) by decide +kernel) rfl rfl ?_
      refine e_P (st' := [aI 1, aI v1]) (show decode (mC 125) 47 = .ok (.iconst 1, 1) by decide +kernel) rfl rfl rfl ?_
      refine e_ne2 (t := 63) (show decode (mC 125) 48 = .ok (.if_icmp .ne 15, 3) by decide +kernel) (by decide) (s4 p1) (by decide) (fun p3 => ?_) (fun p3 => ?_)
      · refine e_L (L' := [some (aR 1), some (aI v1), some (aI v2), some (aI v3), some (aI v4), none]) (st' := [aR 1]) (show decode (mC 125) 63 = .ok (.aload_n 0, 1) by decide +kernel) rfl (by show (if 1 = 0 then none else some (_, _)) = _; rw [if_neg (by decide)]) ?_
        refine e_getR (w := 27) (show decode (mC 125) 64 = .ok (.getfield 34, 3) by decide +kernel) (show pl 11 34 = some (0, 11, 3, 0) by decide +kernel) (by decide) (sh_ok hG (by decide +kernel)) (sh_rf hG (by decide +kernel)) ?_
        refine e_getR (w := 30) (show decode (mC 125) 67 = .ok (.getfield 225, 3) by decide +kernel) (show pl 11 225 = some (0, 4, 6, 0) by decide +kernel) (by decide) (sh_ok hG (by decide +kernel)) (sh_rf hG (by decide +kernel)) ?_
        refine e_L (L' := [some (aR 1), some (aI v1), some (aI v2), some (aI v3), some (aI v4), none]) (st' := [aI v4, aR 30]) (show decode (mC 125) 70 = .ok (.iload 4, 2) by decide +kernel) rfl rfl ?_
        refine e_ialdx (n := 8) (show decode (mC 125) 72 = .ok (.iaload, 1) by decide +kernel) (sh_ok hG (by decide +kernel)) (sh_ln hG (by decide +kernel)) (by decide) (s5 p1 p2 p3) (s6 p1 p2 p3) ex2 ?_
        refine e_L (L' := [some (aR 1), some (aI v1), some (aI v2), some (aI v3), some (aI v4), some (aI x2)]) (st' := []) (show decode (mC 125) 73 = .ok (.istore 5, 2) by decide +kernel) rfl rfl ?_
        refine e_L (L' := [some (aR 1), some (aI v1), some (aI v2), some (aI v3), some (aI v4), some (aI x2)]) (st' := [aI x2]) (show decode (mC 125) 75 = .ok (.iload 5, 2) by decide +kernel) rfl rfl ?_
        refine e_L (L' := [some (aR 1), some (aI v1), some (aI v2), some (aI v3), some (aI v4), some (aI x2)]) (st' := [aI v3, aI x2]) (show decode (mC 125) 77 = .ok (.iload_n 3, 1) by decide +kernel) rfl rfl ?_
        refine e_le2 (t := 87) (show decode (mC 125) 78 = .ok (.if_icmp .le 9, 3) by decide +kernel) (by decide) (s8 p1 p2 p3) (s9 p1 p2 p3) (fun p4 => ?_) (fun p4 => ?_)
        · refine e_L (L' := [some (aR 1), some (aI v1), some (aI v2), some (aI v3), some (aI (v4 + 1)), some (aI x2)]) (st' := []) (show decode (mC 125) 87 = .ok (.iinc 4 1, 3) by decide +kernel) rfl rfl ?_
          refine e_go (t := 18) (show decode (mC 125) 90 = .ok (.goto (-72), 3) by decide +kernel) (by decide) ?_
          exact T_le hQ (leS (leS (leS (leS (leS (leN leE)))))) (k10 p1 p2 p3 p4)
        · refine e_L (L' := [some (aR 1), some (aI v1), some (aI v2), some (aI v3), some (aI v4), some (aI x2)]) (st' := [aI x2]) (show decode (mC 125) 81 = .ok (.iload 5, 2) by decide +kernel) rfl rfl ?_
          refine e_L (L' := [some (aR 1), some (aI v1), some (aI v2), some (aI x2), some (aI v4), some (aI x2)]) (st' := []) (show decode (mC 125) 83 = .ok (.istore_n 3, 1) by decide +kernel) rfl rfl ?_
          refine e_L (L' := [some (aR 1), some (aI v1), some (aI v2), some (aI x2), some (aI v4), some (aI x2)]) (st' := [aI v4]) (show decode (mC 125) 84 = .ok (.iload 4, 2) by decide +kernel) rfl rfl ?_
          refine e_L (L' := [some (aR 1), some (aI v1), some (aI v4), some (aI x2), some (aI v4), some (aI x2)]) (st' := []) (show decode (mC 125) 86 = .ok (.istore_n 2, 1) by decide +kernel) rfl rfl ?_
          refine e_L (L' := [some (aR 1), some (aI v1), some (aI v4), some (aI x2), some (aI (v4 + 1)), some (aI x2)]) (st' := []) (show decode (mC 125) 87 = .ok (.iinc 4 1, 3) by decide +kernel) rfl rfl ?_
          refine e_go (t := 18) (show decode (mC 125) 90 = .ok (.goto (-72), 3) by decide +kernel) (by decide) ?_
          exact T_le hQ (leS (leS (leS (leS (leS (leN leE)))))) (k11 p1 p2 p3 p4)
      · refine e_L (L' := [some (aR 1), some (aI v1), some (aI v2), some (aI v3), some (aI v4), none]) (st' := [aR 1]) (show decode (mC 125) 51 = .ok (.aload_n 0, 1) by decide +kernel) rfl (by show (if 1 = 0 then none else some (_, _)) = _; rw [if_neg (by decide)]) ?_
        refine e_getR (w := 27) (show decode (mC 125) 52 = .ok (.getfield 34, 3) by decide +kernel) (show pl 11 34 = some (0, 11, 3, 0) by decide +kernel) (by decide) (sh_ok hG (by decide +kernel)) (sh_rf hG (by decide +kernel)) ?_
        refine e_L (L' := [some (aR 1), some (aI v1), some (aI v2), some (aI v3), some (aI v4), none]) (st' := [aI v4, aR 27]) (show decode (mC 125) 55 = .ok (.iload 4, 2) by decide +kernel) rfl rfl ?_
        exact e_V (as := [aR 27, aI v4]) (rest := []) (show decode (mC 125) 57 = .ok (.invokevirtual 237, 3) by decide +kernel) (by decide +kernel) (show (decide ((2 : Nat) = mA 23) && decide (23 < q_law)) = true by decide +kernel) rfl (show (0 : Nat) ≤ 8 by decide) (show (2 : Nat) ≤ mL 23 by decide +kernel) rfl (sh_ok hG (by decide +kernel)) (m12 p1 p2 p3)
    · refine e_L (L' := [some (aR 1), some (aI v1), some (aI v2), some (aI v3), some (aI v4), none]) (st' := [aR 1]) (show decode (mC 125) 34 = .ok (.aload_n 0, 1) by decide +kernel) rfl (by show (if 1 = 0 then none else some (_, _)) = _; rw [if_neg (by decide)]) ?_
      refine e_getR (w := 27) (show decode (mC 125) 35 = .ok (.getfield 34, 3) by decide +kernel) (show pl 11 34 = some (0, 11, 3, 0) by decide +kernel) (by decide) (sh_ok hG (by decide +kernel)) (sh_rf hG (by decide +kernel)) ?_
      refine e_L (L' := [some (aR 1), some (aI v1), some (aI v2), some (aI v3), some (aI v4), none]) (st' := [aI v4, aR 27]) (show decode (mC 125) 38 = .ok (.iload 4, 2) by decide +kernel) rfl rfl ?_
      exact e_V (as := [aR 27, aI v4]) (rest := []) (show decode (mC 125) 40 = .ok (.invokevirtual 234, 3) by decide +kernel) (by decide +kernel) (show (decide ((2 : Nat) = mA 22) && decide (22 < q_law)) = true by decide +kernel) rfl (show (0 : Nat) ≤ 8 by decide) (show (2 : Nat) ≤ mL 22 by decide +kernel) rfl (sh_ok hG (by decide +kernel)) (m13 p1 p2)
/-- SoulOffice.greatest(I)I, from 43 -/
theorem b125_43 (hG : Shp G) {v1 v2 v3 v4 u0 : Int} (hQ : ∀ o o' h', q_eqo o o' → Q o h' → Q o' h')
    (s0 : -2147483648 ≤ u0 ∧ u0 < 2147483648)
    (s1 : -2147483648 ≤ v3 ∧ v3 < 2147483648)
    (k2 : (u0 ≤ v3) → T (d + 1) 125 18 [some (aR 1), some (aI v1), some (aI v2), some (aI v3), some (aI (v4 + 1)), none] [] (G, c) Q)
    (k3 : (v3 < u0) → T (d + 1) 125 18 [some (aR 1), some (aI v1), some (aI v4), some (aI u0), some (aI (v4 + 1)), none] [] (G, c) Q) :
    T (d + 1) 125 43 [some (aR 1), some (aI v1), some (aI v2), some (aI v3), some (aI v4), none] [aI u0] (G, c) Q := by
  refine e_go (t := 73) (show decode (mC 125) 43 = .ok (.goto 30, 3) by decide +kernel) (by decide) ?_
  refine e_L (L' := [some (aR 1), some (aI v1), some (aI v2), some (aI v3), some (aI v4), some (aI u0)]) (st' := []) (show decode (mC 125) 73 = .ok (.istore 5, 2) by decide +kernel) rfl rfl ?_
  refine e_L (L' := [some (aR 1), some (aI v1), some (aI v2), some (aI v3), some (aI v4), some (aI u0)]) (st' := [aI u0]) (show decode (mC 125) 75 = .ok (.iload 5, 2) by decide +kernel) rfl rfl ?_
  refine e_L (L' := [some (aR 1), some (aI v1), some (aI v2), some (aI v3), some (aI v4), some (aI u0)]) (st' := [aI v3, aI u0]) (show decode (mC 125) 77 = .ok (.iload_n 3, 1) by decide +kernel) rfl rfl ?_
  refine e_le2 (t := 87) (show decode (mC 125) 78 = .ok (.if_icmp .le 9, 3) by decide +kernel) (by decide) s0 s1 (fun p1 => ?_) (fun p1 => ?_)
  · refine e_L (L' := [some (aR 1), some (aI v1), some (aI v2), some (aI v3), some (aI (v4 + 1)), some (aI u0)]) (st' := []) (show decode (mC 125) 87 = .ok (.iinc 4 1, 3) by decide +kernel) rfl rfl ?_
    refine e_go (t := 18) (show decode (mC 125) 90 = .ok (.goto (-72), 3) by decide +kernel) (by decide) ?_
    exact T_le hQ (leS (leS (leS (leS (leS (leN leE)))))) (k2 p1)
  · refine e_L (L' := [some (aR 1), some (aI v1), some (aI v2), some (aI v3), some (aI v4), some (aI u0)]) (st' := [aI u0]) (show decode (mC 125) 81 = .ok (.iload 5, 2) by decide +kernel) rfl rfl ?_
    refine e_L (L' := [some (aR 1), some (aI v1), some (aI v2), some (aI u0), some (aI v4), some (aI u0)]) (st' := []) (show decode (mC 125) 83 = .ok (.istore_n 3, 1) by decide +kernel) rfl rfl ?_
    refine e_L (L' := [some (aR 1), some (aI v1), some (aI v2), some (aI u0), some (aI v4), some (aI u0)]) (st' := [aI v4]) (show decode (mC 125) 84 = .ok (.iload 4, 2) by decide +kernel) rfl rfl ?_
    refine e_L (L' := [some (aR 1), some (aI v1), some (aI v4), some (aI u0), some (aI v4), some (aI u0)]) (st' := []) (show decode (mC 125) 86 = .ok (.istore_n 2, 1) by decide +kernel) rfl rfl ?_
    refine e_L (L' := [some (aR 1), some (aI v1), some (aI v4), some (aI u0), some (aI (v4 + 1)), some (aI u0)]) (st' := []) (show decode (mC 125) 87 = .ok (.iinc 4 1, 3) by decide +kernel) rfl rfl ?_
    refine e_go (t := 18) (show decode (mC 125) 90 = .ok (.goto (-72), 3) by decide +kernel) (by decide) ?_
    exact T_le hQ (leS (leS (leS (leS (leS (leN leE)))))) (k3 p1)
/-- SoulOffice.greatest(I)I, from 60 -/
theorem b125_60 (hG : Shp G) {v1 v2 v3 v4 u0 : Int} (hQ : ∀ o o' h', q_eqo o o' → Q o h' → Q o' h')
    (s0 : -2147483648 ≤ u0 ∧ u0 < 2147483648)
    (s1 : -2147483648 ≤ v3 ∧ v3 < 2147483648)
    (k2 : (u0 ≤ v3) → T (d + 1) 125 18 [some (aR 1), some (aI v1), some (aI v2), some (aI v3), some (aI (v4 + 1)), none] [] (G, c) Q)
    (k3 : (v3 < u0) → T (d + 1) 125 18 [some (aR 1), some (aI v1), some (aI v4), some (aI u0), some (aI (v4 + 1)), none] [] (G, c) Q) :
    T (d + 1) 125 60 [some (aR 1), some (aI v1), some (aI v2), some (aI v3), some (aI v4), none] [aI u0] (G, c) Q := by
  refine e_go (t := 73) (show decode (mC 125) 60 = .ok (.goto 13, 3) by decide +kernel) (by decide) ?_
  refine e_L (L' := [some (aR 1), some (aI v1), some (aI v2), some (aI v3), some (aI v4), some (aI u0)]) (st' := []) (show decode (mC 125) 73 = .ok (.istore 5, 2) by decide +kernel) rfl rfl ?_
  refine e_L (L' := [some (aR 1), some (aI v1), some (aI v2), some (aI v3), some (aI v4), some (aI u0)]) (st' := [aI u0]) (show decode (mC 125) 75 = .ok (.iload 5, 2) by decide +kernel) rfl rfl ?_
  refine e_L (L' := [some (aR 1), some (aI v1), some (aI v2), some (aI v3), some (aI v4), some (aI u0)]) (st' := [aI v3, aI u0]) (show decode (mC 125) 77 = .ok (.iload_n 3, 1) by decide +kernel) rfl rfl ?_
  refine e_le2 (t := 87) (show decode (mC 125) 78 = .ok (.if_icmp .le 9, 3) by decide +kernel) (by decide) s0 s1 (fun p1 => ?_) (fun p1 => ?_)
  · refine e_L (L' := [some (aR 1), some (aI v1), some (aI v2), some (aI v3), some (aI (v4 + 1)), some (aI u0)]) (st' := []) (show decode (mC 125) 87 = .ok (.iinc 4 1, 3) by decide +kernel) rfl rfl ?_
    refine e_go (t := 18) (show decode (mC 125) 90 = .ok (.goto (-72), 3) by decide +kernel) (by decide) ?_
    exact T_le hQ (leS (leS (leS (leS (leS (leN leE)))))) (k2 p1)
  · refine e_L (L' := [some (aR 1), some (aI v1), some (aI v2), some (aI v3), some (aI v4), some (aI u0)]) (st' := [aI u0]) (show decode (mC 125) 81 = .ok (.iload 5, 2) by decide +kernel) rfl rfl ?_
    refine e_L (L' := [some (aR 1), some (aI v1), some (aI v2), some (aI u0), some (aI v4), some (aI u0)]) (st' := []) (show decode (mC 125) 83 = .ok (.istore_n 3, 1) by decide +kernel) rfl rfl ?_
    refine e_L (L' := [some (aR 1), some (aI v1), some (aI v2), some (aI u0), some (aI v4), some (aI u0)]) (st' := [aI v4]) (show decode (mC 125) 84 = .ok (.iload 4, 2) by decide +kernel) rfl rfl ?_
    refine e_L (L' := [some (aR 1), some (aI v1), some (aI v4), some (aI u0), some (aI v4), some (aI u0)]) (st' := []) (show decode (mC 125) 86 = .ok (.istore_n 2, 1) by decide +kernel) rfl rfl ?_
    refine e_L (L' := [some (aR 1), some (aI v1), some (aI v4), some (aI u0), some (aI (v4 + 1)), some (aI u0)]) (st' := []) (show decode (mC 125) 87 = .ok (.iinc 4 1, 3) by decide +kernel) rfl rfl ?_
    refine e_go (t := 18) (show decode (mC 125) 90 = .ok (.goto (-72), 3) by decide +kernel) (by decide) ?_
    exact T_le hQ (leS (leS (leS (leS (leS (leN leE)))))) (k3 p1)
/-- SoulOffice.why(II)I, from 0 -/
theorem b126_0 (hG : Shp G) {v1 v2 : Int}
    (m0 : TM d 71 [aR 9, aI v1] (G, c) (fun r h' => T (d + 1) 126 8 [some (aR 1), some (aI v1), some (aI v2)] (r.toList ++ []) h' Q)) :
    T (d + 1) 126 0 [some (aR 1), some (aI v1), some (aI v2)] [] (G, c) Q := by
  refine e_L (L' := [some (aR 1), some (aI v1), some (aI v2)]) (st' := [aR 1]) (show decode (mC 126) 0 = .ok (.aload_n 0, 1) by decide +kernel) rfl (by show (if 1 = 0 then none else some (_, _)) = _; rw [if_neg (by decide)]) ?_
  refine e_getR (w := 9) (show decode (mC 126) 1 = .ok (.getfield 27, 3) by decide +kernel) (show pl 11 27 = some (0, 11, 1, 0) by decide +kernel) (by decide) (sh_ok hG (by decide +kernel)) (sh_rf hG (by decide +kernel)) ?_
  refine e_L (L' := [some (aR 1), some (aI v1), some (aI v2)]) (st' := [aI v1, aR 9]) (show decode (mC 126) 4 = .ok (.iload_n 1, 1) by decide +kernel) rfl rfl ?_
  exact e_V (as := [aR 9, aI v1]) (rest := []) (show decode (mC 126) 5 = .ok (.invokevirtual 213, 3) by decide +kernel) (by decide +kernel) (show (decide ((2 : Nat) = mA 71) && decide (71 < q_law)) = true by decide +kernel) rfl (show (0 : Nat) ≤ 8 by decide) (show (2 : Nat) ≤ mL 71 by decide +kernel) rfl (sh_ok hG (by decide +kernel)) m0
/-- SoulOffice.why(II)I, from 8 -/
theorem b126_8 (hG : Shp G) {v1 v2 u0 : Int}
    (s0 : -2147483648 ≤ u0 ∧ u0 < 2147483648)
    (z1 : (u0 = 0) → Q (.inl (some (aI (-1)))) (G, c))
    (m2 : (¬ u0 = 0) → TM d 70 [aR 9, aI v2] (G, c) (fun r h' => T (d + 1) 126 19 [some (aR 1), some (aI v1), some (aI v2)] (r.toList ++ []) h' Q)) :
    T (d + 1) 126 8 [some (aR 1), some (aI v1), some (aI v2)] [aI u0] (G, c) Q := by
  refine e_eq1 (t := 34) (show decode (mC 126) 8 = .ok (.ifCond .eq 26, 3) by decide +kernel) (by decide) s0 (fun p1 => ?_) (fun p1 => ?_)
  · refine e_P (st' := [aI (-1)]) (show decode (mC 126) 34 = .ok (.iconst (-1), 1) by decide +kernel) rfl rfl rfl ?_
    exact e_iret (show decode (mC 126) 35 = .ok (.ireturn, 1) by decide +kernel) rfl (z1 p1)
  · refine e_L (L' := [some (aR 1), some (aI v1), some (aI v2)]) (st' := [aR 1]) (show decode (mC 126) 11 = .ok (.aload_n 0, 1) by decide +kernel) rfl (by show (if 1 = 0 then none else some (_, _)) = _; rw [if_neg (by decide)]) ?_
    refine e_getR (w := 9) (show decode (mC 126) 12 = .ok (.getfield 27, 3) by decide +kernel) (show pl 11 27 = some (0, 11, 1, 0) by decide +kernel) (by decide) (sh_ok hG (by decide +kernel)) (sh_rf hG (by decide +kernel)) ?_
    refine e_L (L' := [some (aR 1), some (aI v1), some (aI v2)]) (st' := [aI v2, aR 9]) (show decode (mC 126) 15 = .ok (.iload_n 2, 1) by decide +kernel) rfl rfl ?_
    exact e_V (as := [aR 9, aI v2]) (rest := []) (show decode (mC 126) 16 = .ok (.invokevirtual 190, 3) by decide +kernel) (by decide +kernel) (show (decide ((2 : Nat) = mA 70) && decide (70 < q_law)) = true by decide +kernel) rfl (show (0 : Nat) ≤ 8 by decide) (show (2 : Nat) ≤ mL 70 by decide +kernel) rfl (sh_ok hG (by decide +kernel)) (m2 p1)
/-- SoulOffice.why(II)I, from 19 -/
theorem b126_19 (hG : Shp G) {v1 v2 u0 : Int} (hQ : ∀ o o' h', q_eqo o o' → Q o h' → Q o' h')
    (s0 : -2147483648 ≤ u0 ∧ u0 < 2147483648)
    (z1 : (u0 = 0) → Q (.inl (some (aI (-1)))) (G, c))
    (m2 : (¬ u0 = 0) → TM d 29 [aR 27, aI v1, aI v2] (G, c) (fun r h' => T (d + 1) 126 31 [none, none, none] (r.toList ++ []) h' Q)) :
    T (d + 1) 126 19 [some (aR 1), some (aI v1), some (aI v2)] [aI u0] (G, c) Q := by
  refine e_eq1 (t := 34) (show decode (mC 126) 19 = .ok (.ifCond .eq 15, 3) by decide +kernel) (by decide) s0 (fun p1 => ?_) (fun p1 => ?_)
  · refine e_P (st' := [aI (-1)]) (show decode (mC 126) 34 = .ok (.iconst (-1), 1) by decide +kernel) rfl rfl rfl ?_
    exact e_iret (show decode (mC 126) 35 = .ok (.ireturn, 1) by decide +kernel) rfl (z1 p1)
  · refine e_L (L' := [some (aR 1), some (aI v1), some (aI v2)]) (st' := [aR 1]) (show decode (mC 126) 22 = .ok (.aload_n 0, 1) by decide +kernel) rfl (by show (if 1 = 0 then none else some (_, _)) = _; rw [if_neg (by decide)]) ?_
    refine e_getR (w := 27) (show decode (mC 126) 23 = .ok (.getfield 34, 3) by decide +kernel) (show pl 11 34 = some (0, 11, 3, 0) by decide +kernel) (by decide) (sh_ok hG (by decide +kernel)) (sh_rf hG (by decide +kernel)) ?_
    refine e_L (L' := [some (aR 1), some (aI v1), some (aI v2)]) (st' := [aI v1, aR 27]) (show decode (mC 126) 26 = .ok (.iload_n 1, 1) by decide +kernel) rfl rfl ?_
    refine e_L (L' := [some (aR 1), some (aI v1), some (aI v2)]) (st' := [aI v2, aI v1, aR 27]) (show decode (mC 126) 27 = .ok (.iload_n 2, 1) by decide +kernel) rfl rfl ?_
    exact e_V (as := [aR 27, aI v1, aI v2]) (rest := []) (show decode (mC 126) 28 = .ok (.invokevirtual 281, 3) by decide +kernel) (by decide +kernel) (show (decide ((3 : Nat) = mA 29) && decide (29 < q_law)) = true by decide +kernel) rfl (show (0 : Nat) ≤ 8 by decide) (show (3 : Nat) ≤ mL 29 by decide +kernel) rfl (sh_ok hG (by decide +kernel)) (tm_le hQ (leN (leN (leN leE))) (m2 p1))
/-- SoulOffice.why(II)I, from 31 -/
theorem b126_31 (hG : Shp G) {u0 : Int}
    (z0 : Q (.inl (some (aI u0))) (G, c)) :
    T (d + 1) 126 31 [none, none, none] [aI u0] (G, c) Q := by
  refine e_go (t := 35) (show decode (mC 126) 31 = .ok (.goto 4, 3) by decide +kernel) (by decide) ?_
  exact e_iret (show decode (mC 126) 35 = .ok (.ireturn, 1) by decide +kernel) rfl z0
/-- SoulOffice.give(II)I, from 0 -/
theorem b127_0 (hG : Shp G) {v1 v2 : Int}
    (m0 : TM d 71 [aR 9, aI v1] (G, c) (fun r h' => T (d + 1) 127 8 [some (aR 1), some (aI v1), some (aI v2), none] (r.toList ++ []) h' Q)) :
    T (d + 1) 127 0 [some (aR 1), some (aI v1), some (aI v2), none] [] (G, c) Q := by
  refine e_L (L' := [some (aR 1), some (aI v1), some (aI v2), none]) (st' := [aR 1]) (show decode (mC 127) 0 = .ok (.aload_n 0, 1) by decide +kernel) rfl (by show (if 1 = 0 then none else some (_, _)) = _; rw [if_neg (by decide)]) ?_
  refine e_getR (w := 9) (show decode (mC 127) 1 = .ok (.getfield 27, 3) by decide +kernel) (show pl 11 27 = some (0, 11, 1, 0) by decide +kernel) (by decide) (sh_ok hG (by decide +kernel)) (sh_rf hG (by decide +kernel)) ?_
  refine e_L (L' := [some (aR 1), some (aI v1), some (aI v2), none]) (st' := [aI v1, aR 9]) (show decode (mC 127) 4 = .ok (.iload_n 1, 1) by decide +kernel) rfl rfl ?_
  exact e_V (as := [aR 9, aI v1]) (rest := []) (show decode (mC 127) 5 = .ok (.invokevirtual 213, 3) by decide +kernel) (by decide +kernel) (show (decide ((2 : Nat) = mA 71) && decide (71 < q_law)) = true by decide +kernel) rfl (show (0 : Nat) ≤ 8 by decide) (show (2 : Nat) ≤ mL 71 by decide +kernel) rfl (sh_ok hG (by decide +kernel)) m0
/-- SoulOffice.give(II)I, from 8 -/
theorem b127_8 (hG : Shp G) {v1 v2 u0 : Int}
    (s0 : -2147483648 ≤ u0 ∧ u0 < 2147483648)
    (z1 : (u0 = 0) → Q (.inl (some (aI (-1)))) (G, c))
    (m2 : (¬ u0 = 0) → TM d 70 [aR 9, aI v2] (G, c) (fun r h' => T (d + 1) 127 19 [some (aR 1), some (aI v1), some (aI v2), none] (r.toList ++ []) h' Q)) :
    T (d + 1) 127 8 [some (aR 1), some (aI v1), some (aI v2), none] [aI u0] (G, c) Q := by
  refine e_eq1 (t := 22) (show decode (mC 127) 8 = .ok (.ifCond .eq 14, 3) by decide +kernel) (by decide) s0 (fun p1 => ?_) (fun p1 => ?_)
  · refine e_P (st' := [aI (-1)]) (show decode (mC 127) 22 = .ok (.iconst (-1), 1) by decide +kernel) rfl rfl rfl ?_
    exact e_iret (show decode (mC 127) 23 = .ok (.ireturn, 1) by decide +kernel) rfl (z1 p1)
  · refine e_L (L' := [some (aR 1), some (aI v1), some (aI v2), none]) (st' := [aR 1]) (show decode (mC 127) 11 = .ok (.aload_n 0, 1) by decide +kernel) rfl (by show (if 1 = 0 then none else some (_, _)) = _; rw [if_neg (by decide)]) ?_
    refine e_getR (w := 9) (show decode (mC 127) 12 = .ok (.getfield 27, 3) by decide +kernel) (show pl 11 27 = some (0, 11, 1, 0) by decide +kernel) (by decide) (sh_ok hG (by decide +kernel)) (sh_rf hG (by decide +kernel)) ?_
    refine e_L (L' := [some (aR 1), some (aI v1), some (aI v2), none]) (st' := [aI v2, aR 9]) (show decode (mC 127) 15 = .ok (.iload_n 2, 1) by decide +kernel) rfl rfl ?_
    exact e_V (as := [aR 9, aI v2]) (rest := []) (show decode (mC 127) 16 = .ok (.invokevirtual 190, 3) by decide +kernel) (by decide +kernel) (show (decide ((2 : Nat) = mA 70) && decide (70 < q_law)) = true by decide +kernel) rfl (show (0 : Nat) ≤ 8 by decide) (show (2 : Nat) ≤ mL 70 by decide +kernel) rfl (sh_ok hG (by decide +kernel)) (m2 p1)
/-- SoulOffice.give(II)I, from 19 -/
theorem b127_19 (hG : Shp G) {v1 v2 u0 : Int}
    (s0 : -2147483648 ≤ u0 ∧ u0 < 2147483648)
    (m1 : (¬ u0 = 0) → TM d 29 [aR 27, aI v1, aI v2] (G, c) (fun r h' => T (d + 1) 127 33 [some (aR 1), some (aI v1), some (aI v2), none] (r.toList ++ []) h' Q))
    (z2 : (u0 = 0) → Q (.inl (some (aI (-1)))) (G, c)) :
    T (d + 1) 127 19 [some (aR 1), some (aI v1), some (aI v2), none] [aI u0] (G, c) Q := by
  refine e_ne1 (t := 24) (show decode (mC 127) 19 = .ok (.ifCond .ne 5, 3) by decide +kernel) (by decide) s0 (fun p1 => ?_) (fun p1 => ?_)
  · refine e_L (L' := [some (aR 1), some (aI v1), some (aI v2), none]) (st' := [aR 1]) (show decode (mC 127) 24 = .ok (.aload_n 0, 1) by decide +kernel) rfl (by show (if 1 = 0 then none else some (_, _)) = _; rw [if_neg (by decide)]) ?_
    refine e_getR (w := 27) (show decode (mC 127) 25 = .ok (.getfield 34, 3) by decide +kernel) (show pl 11 34 = some (0, 11, 3, 0) by decide +kernel) (by decide) (sh_ok hG (by decide +kernel)) (sh_rf hG (by decide +kernel)) ?_
    refine e_L (L' := [some (aR 1), some (aI v1), some (aI v2), none]) (st' := [aI v1, aR 27]) (show decode (mC 127) 28 = .ok (.iload_n 1, 1) by decide +kernel) rfl rfl ?_
    refine e_L (L' := [some (aR 1), some (aI v1), some (aI v2), none]) (st' := [aI v2, aI v1, aR 27]) (show decode (mC 127) 29 = .ok (.iload_n 2, 1) by decide +kernel) rfl rfl ?_
    exact e_V (as := [aR 27, aI v1, aI v2]) (rest := []) (show decode (mC 127) 30 = .ok (.invokevirtual 281, 3) by decide +kernel) (by decide +kernel) (show (decide ((3 : Nat) = mA 29) && decide (29 < q_law)) = true by decide +kernel) rfl (show (0 : Nat) ≤ 8 by decide) (show (3 : Nat) ≤ mL 29 by decide +kernel) rfl (sh_ok hG (by decide +kernel)) (m1 p1)
  · refine e_P (st' := [aI (-1)]) (show decode (mC 127) 22 = .ok (.iconst (-1), 1) by decide +kernel) rfl rfl rfl ?_
    exact e_iret (show decode (mC 127) 23 = .ok (.ireturn, 1) by decide +kernel) rfl (z2 p1)
/-- SoulOffice.give(II)I, from 33 -/
theorem b127_33 (hG : Shp G) {v1 v2 u0 : Int} (hQ : ∀ o o' h', q_eqo o o' → Q o h' → Q o' h')
    (s0 : -2147483648 ≤ u0 ∧ u0 < 2147483648)
    (k1 : (¬ u0 = 0) → T (d + 1) 127 58 [none, none, none, some (aI u0)] [] (G, c) Q)
    (m2 : (u0 = 0) → TM d 14 [aR 53, aR 27] (G, c) (fun r h' => T (d + 1) 127 49 [some (aR 1), some (aI v1), some (aI v2), some (aI u0)] (r.toList ++ []) h' Q)) :
    T (d + 1) 127 33 [some (aR 1), some (aI v1), some (aI v2), none] [aI u0] (G, c) Q := by
  refine e_L (L' := [some (aR 1), some (aI v1), some (aI v2), some (aI u0)]) (st' := []) (show decode (mC 127) 33 = .ok (.istore_n 3, 1) by decide +kernel) rfl rfl ?_
  refine e_L (L' := [some (aR 1), some (aI v1), some (aI v2), some (aI u0)]) (st' := [aI u0]) (show decode (mC 127) 34 = .ok (.iload_n 3, 1) by decide +kernel) rfl rfl ?_
  refine e_ne1 (t := 58) (show decode (mC 127) 35 = .ok (.ifCond .ne 23, 3) by decide +kernel) (by decide) s0 (fun p1 => ?_) (fun p1 => ?_)
  · exact T_le hQ (leN (leN (leN (leS leE)))) (k1 p1)
  · refine e_L (L' := [some (aR 1), some (aI v1), some (aI v2), some (aI u0)]) (st' := [aR 1]) (show decode (mC 127) 38 = .ok (.aload_n 0, 1) by decide +kernel) rfl (by show (if 1 = 0 then none else some (_, _)) = _; rw [if_neg (by decide)]) ?_
    refine e_getR (w := 53) (show decode (mC 127) 39 = .ok (.getfield 56, 3) by decide +kernel) (show pl 11 56 = some (0, 11, 7, 0) by decide +kernel) (by decide) (sh_ok hG (by decide +kernel)) (sh_rf hG (by decide +kernel)) ?_
    refine e_L (L' := [some (aR 1), some (aI v1), some (aI v2), some (aI u0)]) (st' := [aR 1, aR 53]) (show decode (mC 127) 42 = .ok (.aload_n 0, 1) by decide +kernel) rfl (by show (if 1 = 0 then none else some (_, _)) = _; rw [if_neg (by decide)]) ?_
    refine e_getR (w := 27) (show decode (mC 127) 43 = .ok (.getfield 34, 3) by decide +kernel) (show pl 11 34 = some (0, 11, 3, 0) by decide +kernel) (by decide) (sh_ok hG (by decide +kernel)) (sh_rf hG (by decide +kernel)) ?_
    exact e_V (as := [aR 53, aR 27]) (rest := []) (show decode (mC 127) 46 = .ok (.invokevirtual 145, 3) by decide +kernel) (by decide +kernel) (show (decide ((2 : Nat) = mA 14) && decide (14 < q_law)) = true by decide +kernel) rfl (show (0 : Nat) ≤ 8 by decide) (show (2 : Nat) ≤ mL 14 by decide +kernel) rfl (sh_ok hG (by decide +kernel)) (m2 p1)
/-- SoulOffice.give(II)I, from 49 -/
theorem b127_49 (hG : Shp G) {v1 v2 v3 : Int} (hQ : ∀ o o' h', q_eqo o o' → Q o h' → Q o' h')
    (m0 : TM d 30 [aR 27, aI v1, aI v2] (G, c) (fun r h' => T (d + 1) 127 58 [none, none, none, some (aI v3)] (r.toList ++ []) h' Q)) :
    T (d + 1) 127 49 [some (aR 1), some (aI v1), some (aI v2), some (aI v3)] [] (G, c) Q := by
  refine e_L (L' := [some (aR 1), some (aI v1), some (aI v2), some (aI v3)]) (st' := [aR 1]) (show decode (mC 127) 49 = .ok (.aload_n 0, 1) by decide +kernel) rfl (by show (if 1 = 0 then none else some (_, _)) = _; rw [if_neg (by decide)]) ?_
  refine e_getR (w := 27) (show decode (mC 127) 50 = .ok (.getfield 34, 3) by decide +kernel) (show pl 11 34 = some (0, 11, 3, 0) by decide +kernel) (by decide) (sh_ok hG (by decide +kernel)) (sh_rf hG (by decide +kernel)) ?_
  refine e_L (L' := [some (aR 1), some (aI v1), some (aI v2), some (aI v3)]) (st' := [aI v1, aR 27]) (show decode (mC 127) 53 = .ok (.iload_n 1, 1) by decide +kernel) rfl rfl ?_
  refine e_L (L' := [some (aR 1), some (aI v1), some (aI v2), some (aI v3)]) (st' := [aI v2, aI v1, aR 27]) (show decode (mC 127) 54 = .ok (.iload_n 2, 1) by decide +kernel) rfl rfl ?_
  exact e_V (as := [aR 27, aI v1, aI v2]) (rest := []) (show decode (mC 127) 55 = .ok (.invokevirtual 284, 3) by decide +kernel) (by decide +kernel) (show (decide ((3 : Nat) = mA 30) && decide (30 < q_law)) = true by decide +kernel) rfl (show (0 : Nat) ≤ 8 by decide) (show (3 : Nat) ≤ mL 30 by decide +kernel) rfl (sh_ok hG (by decide +kernel)) (tm_le hQ (leN (leN (leN (leS leE)))) m0)
/-- SoulOffice.give(II)I, from 58 -/
theorem b127_58 (hG : Shp G) {v3 : Int}
    (z0 : Q (.inl (some (aI v3))) (G, c)) :
    T (d + 1) 127 58 [none, none, none, some (aI v3)] [] (G, c) Q := by
  refine e_L (L' := [none, none, none, some (aI v3)]) (st' := [aI v3]) (show decode (mC 127) 58 = .ok (.iload_n 3, 1) by decide +kernel) rfl rfl ?_
  exact e_iret (show decode (mC 127) 59 = .ok (.ireturn, 1) by decide +kernel) rfl z0
/-- SoulOffice.days(I)I, from 0 -/
theorem b128_0 (hG : Shp G) {v1 : Int}
    (m0 : TM d 32 [aR 27, aI v1] (G, c) (fun r h' => T (d + 1) 128 8 [some (aR 1), some (aI v1)] (r.toList ++ []) h' Q)) :
    T (d + 1) 128 0 [some (aR 1), some (aI v1)] [] (G, c) Q := by
  refine e_L (L' := [some (aR 1), some (aI v1)]) (st' := [aR 1]) (show decode (mC 128) 0 = .ok (.aload_n 0, 1) by decide +kernel) rfl (by show (if 1 = 0 then none else some (_, _)) = _; rw [if_neg (by decide)]) ?_
  refine e_getR (w := 27) (show decode (mC 128) 1 = .ok (.getfield 34, 3) by decide +kernel) (show pl 11 34 = some (0, 11, 3, 0) by decide +kernel) (by decide) (sh_ok hG (by decide +kernel)) (sh_rf hG (by decide +kernel)) ?_
  refine e_L (L' := [some (aR 1), some (aI v1)]) (st' := [aI v1, aR 27]) (show decode (mC 128) 4 = .ok (.iload_n 1, 1) by decide +kernel) rfl rfl ?_
  exact e_V (as := [aR 27, aI v1]) (rest := []) (show decode (mC 128) 5 = .ok (.invokevirtual 288, 3) by decide +kernel) (by decide +kernel) (show (decide ((2 : Nat) = mA 32) && decide (32 < q_law)) = true by decide +kernel) rfl (show (0 : Nat) ≤ 8 by decide) (show (2 : Nat) ≤ mL 32 by decide +kernel) rfl (sh_ok hG (by decide +kernel)) m0
/-- SoulOffice.days(I)I, from 8 -/
theorem b128_8 (hG : Shp G) {v1 u0 : Int}
    (s0 : -2147483648 ≤ u0 ∧ u0 < 2147483648)
    (m1 : (¬ u0 = 0) → TM d 14 [aR 53, aR 27] (G, c) (fun r h' => T (d + 1) 128 24 [some (aR 1), some (aI v1)] (r.toList ++ []) h' Q))
    (z2 : (u0 = 0) → Q (.inl (some (aI (-1)))) (G, c)) :
    T (d + 1) 128 8 [some (aR 1), some (aI v1)] [aI u0] (G, c) Q := by
  refine e_ne1 (t := 13) (show decode (mC 128) 8 = .ok (.ifCond .ne 5, 3) by decide +kernel) (by decide) s0 (fun p1 => ?_) (fun p1 => ?_)
  · refine e_L (L' := [some (aR 1), some (aI v1)]) (st' := [aR 1]) (show decode (mC 128) 13 = .ok (.aload_n 0, 1) by decide +kernel) rfl (by show (if 1 = 0 then none else some (_, _)) = _; rw [if_neg (by decide)]) ?_
    refine e_getR (w := 53) (show decode (mC 128) 14 = .ok (.getfield 56, 3) by decide +kernel) (show pl 11 56 = some (0, 11, 7, 0) by decide +kernel) (by decide) (sh_ok hG (by decide +kernel)) (sh_rf hG (by decide +kernel)) ?_
    refine e_L (L' := [some (aR 1), some (aI v1)]) (st' := [aR 1, aR 53]) (show decode (mC 128) 17 = .ok (.aload_n 0, 1) by decide +kernel) rfl (by show (if 1 = 0 then none else some (_, _)) = _; rw [if_neg (by decide)]) ?_
    refine e_getR (w := 27) (show decode (mC 128) 18 = .ok (.getfield 34, 3) by decide +kernel) (show pl 11 34 = some (0, 11, 3, 0) by decide +kernel) (by decide) (sh_ok hG (by decide +kernel)) (sh_rf hG (by decide +kernel)) ?_
    exact e_V (as := [aR 53, aR 27]) (rest := []) (show decode (mC 128) 21 = .ok (.invokevirtual 145, 3) by decide +kernel) (by decide +kernel) (show (decide ((2 : Nat) = mA 14) && decide (14 < q_law)) = true by decide +kernel) rfl (show (0 : Nat) ≤ 8 by decide) (show (2 : Nat) ≤ mL 14 by decide +kernel) rfl (sh_ok hG (by decide +kernel)) (m1 p1)
  · refine e_P (st' := [aI (-1)]) (show decode (mC 128) 11 = .ok (.iconst (-1), 1) by decide +kernel) rfl rfl rfl ?_
    exact e_iret (show decode (mC 128) 12 = .ok (.ireturn, 1) by decide +kernel) rfl (z2 p1)
/-- SoulOffice.days(I)I, from 24 -/
theorem b128_24 (hG : Shp G) {v1 : Int} (hQ : ∀ o o' h', q_eqo o o' → Q o h' → Q o' h')
    (m0 : TM d 33 [aR 27, aI v1] (G, c) (fun r h' => T (d + 1) 128 32 [some (aR 1), none] (r.toList ++ []) h' Q)) :
    T (d + 1) 128 24 [some (aR 1), some (aI v1)] [] (G, c) Q := by
  refine e_L (L' := [some (aR 1), some (aI v1)]) (st' := [aR 1]) (show decode (mC 128) 24 = .ok (.aload_n 0, 1) by decide +kernel) rfl (by show (if 1 = 0 then none else some (_, _)) = _; rw [if_neg (by decide)]) ?_
  refine e_getR (w := 27) (show decode (mC 128) 25 = .ok (.getfield 34, 3) by decide +kernel) (show pl 11 34 = some (0, 11, 3, 0) by decide +kernel) (by decide) (sh_ok hG (by decide +kernel)) (sh_rf hG (by decide +kernel)) ?_
  refine e_L (L' := [some (aR 1), some (aI v1)]) (st' := [aI v1, aR 27]) (show decode (mC 128) 28 = .ok (.iload_n 1, 1) by decide +kernel) rfl rfl ?_
  exact e_V (as := [aR 27, aI v1]) (rest := []) (show decode (mC 128) 29 = .ok (.invokevirtual 291, 3) by decide +kernel) (by decide +kernel) (show (decide ((2 : Nat) = mA 33) && decide (33 < q_law)) = true by decide +kernel) rfl (show (0 : Nat) ≤ 8 by decide) (show (2 : Nat) ≤ mL 33 by decide +kernel) rfl (sh_ok hG (by decide +kernel)) (tm_le hQ (leS (leN leE)) m0)
/-- SoulOffice.days(I)I, from 32 -/
theorem b128_32 (hG : Shp G) {x1 : Int}
    (ex1 : c 27 1 = x1)
    (z1 : Q (.inl (some (aI x1))) (G, c)) :
    T (d + 1) 128 32 [some (aR 1), none] [] (G, c) Q := by
  refine e_L (L' := [some (aR 1), none]) (st' := [aR 1]) (show decode (mC 128) 32 = .ok (.aload_n 0, 1) by decide +kernel) rfl (by show (if 1 = 0 then none else some (_, _)) = _; rw [if_neg (by decide)]) ?_
  refine e_getR (w := 27) (show decode (mC 128) 33 = .ok (.getfield 34, 3) by decide +kernel) (show pl 11 34 = some (0, 11, 3, 0) by decide +kernel) (by decide) (sh_ok hG (by decide +kernel)) (sh_rf hG (by decide +kernel)) ?_
  refine e_getIx (show decode (mC 128) 36 = .ok (.getfield 249, 3) by decide +kernel) (show pl 11 249 = some (0, 4, 1, 0) by decide +kernel) (by decide) (sh_ok hG (by decide +kernel)) ex1 ?_
  exact e_iret (show decode (mC 128) 39 = .ok (.ireturn, 1) by decide +kernel) rfl z1
/-- SoulOffice.clerk(I)I, from 0 -/
theorem b129_0 (hG : Shp G) {v1 : Int}
    (m0 : TM d 32 [aR 27, aI v1] (G, c) (fun r h' => T (d + 1) 129 8 [some (aR 1), some (aI v1)] (r.toList ++ []) h' Q)) :
    T (d + 1) 129 0 [some (aR 1), some (aI v1)] [] (G, c) Q := by
  refine e_L (L' := [some (aR 1), some (aI v1)]) (st' := [aR 1]) (show decode (mC 129) 0 = .ok (.aload_n 0, 1) by decide +kernel) rfl (by show (if 1 = 0 then none else some (_, _)) = _; rw [if_neg (by decide)]) ?_
  refine e_getR (w := 27) (show decode (mC 129) 1 = .ok (.getfield 34, 3) by decide +kernel) (show pl 11 34 = some (0, 11, 3, 0) by decide +kernel) (by decide) (sh_ok hG (by decide +kernel)) (sh_rf hG (by decide +kernel)) ?_
  refine e_L (L' := [some (aR 1), some (aI v1)]) (st' := [aI v1, aR 27]) (show decode (mC 129) 4 = .ok (.iload_n 1, 1) by decide +kernel) rfl rfl ?_
  exact e_V (as := [aR 27, aI v1]) (rest := []) (show decode (mC 129) 5 = .ok (.invokevirtual 288, 3) by decide +kernel) (by decide +kernel) (show (decide ((2 : Nat) = mA 32) && decide (32 < q_law)) = true by decide +kernel) rfl (show (0 : Nat) ≤ 8 by decide) (show (2 : Nat) ≤ mL 32 by decide +kernel) rfl (sh_ok hG (by decide +kernel)) m0
/-- SoulOffice.clerk(I)I, from 8 -/
theorem b129_8 (hG : Shp G) {v1 u0 : Int}
    (s0 : -2147483648 ≤ u0 ∧ u0 < 2147483648)
    (m1 : (¬ u0 = 0) → TM d 14 [aR 53, aR 27] (G, c) (fun r h' => T (d + 1) 129 24 [some (aR 1), some (aI v1)] (r.toList ++ []) h' Q))
    (z2 : (u0 = 0) → Q (.inl (some (aI (-1)))) (G, c)) :
    T (d + 1) 129 8 [some (aR 1), some (aI v1)] [aI u0] (G, c) Q := by
  refine e_ne1 (t := 13) (show decode (mC 129) 8 = .ok (.ifCond .ne 5, 3) by decide +kernel) (by decide) s0 (fun p1 => ?_) (fun p1 => ?_)
  · refine e_L (L' := [some (aR 1), some (aI v1)]) (st' := [aR 1]) (show decode (mC 129) 13 = .ok (.aload_n 0, 1) by decide +kernel) rfl (by show (if 1 = 0 then none else some (_, _)) = _; rw [if_neg (by decide)]) ?_
    refine e_getR (w := 53) (show decode (mC 129) 14 = .ok (.getfield 56, 3) by decide +kernel) (show pl 11 56 = some (0, 11, 7, 0) by decide +kernel) (by decide) (sh_ok hG (by decide +kernel)) (sh_rf hG (by decide +kernel)) ?_
    refine e_L (L' := [some (aR 1), some (aI v1)]) (st' := [aR 1, aR 53]) (show decode (mC 129) 17 = .ok (.aload_n 0, 1) by decide +kernel) rfl (by show (if 1 = 0 then none else some (_, _)) = _; rw [if_neg (by decide)]) ?_
    refine e_getR (w := 27) (show decode (mC 129) 18 = .ok (.getfield 34, 3) by decide +kernel) (show pl 11 34 = some (0, 11, 3, 0) by decide +kernel) (by decide) (sh_ok hG (by decide +kernel)) (sh_rf hG (by decide +kernel)) ?_
    exact e_V (as := [aR 53, aR 27]) (rest := []) (show decode (mC 129) 21 = .ok (.invokevirtual 145, 3) by decide +kernel) (by decide +kernel) (show (decide ((2 : Nat) = mA 14) && decide (14 < q_law)) = true by decide +kernel) rfl (show (0 : Nat) ≤ 8 by decide) (show (2 : Nat) ≤ mL 14 by decide +kernel) rfl (sh_ok hG (by decide +kernel)) (m1 p1)
  · refine e_P (st' := [aI (-1)]) (show decode (mC 129) 11 = .ok (.iconst (-1), 1) by decide +kernel) rfl rfl rfl ?_
    exact e_iret (show decode (mC 129) 12 = .ok (.ireturn, 1) by decide +kernel) rfl (z2 p1)
/-- SoulOffice.clerk(I)I, from 24 -/
theorem b129_24 (hG : Shp G) {v1 : Int} (hQ : ∀ o o' h', q_eqo o o' → Q o h' → Q o' h')
    (m0 : TM d 34 [aR 27, aI v1] (G, c) (fun r h' => T (d + 1) 129 32 [some (aR 1), none] (r.toList ++ []) h' Q)) :
    T (d + 1) 129 24 [some (aR 1), some (aI v1)] [] (G, c) Q := by
  refine e_L (L' := [some (aR 1), some (aI v1)]) (st' := [aR 1]) (show decode (mC 129) 24 = .ok (.aload_n 0, 1) by decide +kernel) rfl (by show (if 1 = 0 then none else some (_, _)) = _; rw [if_neg (by decide)]) ?_
  refine e_getR (w := 27) (show decode (mC 129) 25 = .ok (.getfield 34, 3) by decide +kernel) (show pl 11 34 = some (0, 11, 3, 0) by decide +kernel) (by decide) (sh_ok hG (by decide +kernel)) (sh_rf hG (by decide +kernel)) ?_
  refine e_L (L' := [some (aR 1), some (aI v1)]) (st' := [aI v1, aR 27]) (show decode (mC 129) 28 = .ok (.iload_n 1, 1) by decide +kernel) rfl rfl ?_
  exact e_V (as := [aR 27, aI v1]) (rest := []) (show decode (mC 129) 29 = .ok (.invokevirtual 294, 3) by decide +kernel) (by decide +kernel) (show (decide ((2 : Nat) = mA 34) && decide (34 < q_law)) = true by decide +kernel) rfl (show (0 : Nat) ≤ 8 by decide) (show (2 : Nat) ≤ mL 34 by decide +kernel) rfl (sh_ok hG (by decide +kernel)) (tm_le hQ (leS (leN leE)) m0)
/-- SoulOffice.clerk(I)I, from 32 -/
theorem b129_32 (hG : Shp G) {x1 : Int}
    (ex1 : c 27 1 = x1)
    (z1 : Q (.inl (some (aI x1))) (G, c)) :
    T (d + 1) 129 32 [some (aR 1), none] [] (G, c) Q := by
  refine e_L (L' := [some (aR 1), none]) (st' := [aR 1]) (show decode (mC 129) 32 = .ok (.aload_n 0, 1) by decide +kernel) rfl (by show (if 1 = 0 then none else some (_, _)) = _; rw [if_neg (by decide)]) ?_
  refine e_getR (w := 27) (show decode (mC 129) 33 = .ok (.getfield 34, 3) by decide +kernel) (show pl 11 34 = some (0, 11, 3, 0) by decide +kernel) (by decide) (sh_ok hG (by decide +kernel)) (sh_rf hG (by decide +kernel)) ?_
  refine e_getIx (show decode (mC 129) 36 = .ok (.getfield 249, 3) by decide +kernel) (show pl 11 249 = some (0, 4, 1, 0) by decide +kernel) (by decide) (sh_ok hG (by decide +kernel)) ex1 ?_
  exact e_iret (show decode (mC 129) 39 = .ok (.ireturn, 1) by decide +kernel) rfl z1
/-- SoulOffice.drawn(II)I, from 0 -/
theorem b130_0 (hG : Shp G) {v1 v2 x1 : Int}
    (ex1 : c 9 0 = x1)
    (s1 : -2147483648 ≤ x1 ∧ x1 < 2147483648)
    (z2 : (x1 < 1) → Q (.inl (some (aI (-1)))) (G, c))
    (m3 : (1 ≤ x1) → TM d 32 [aR 27, aI v1] (G, c) (fun r h' => T (d + 1) 130 19 [some (aR 1), some (aI v1), some (aI v2), none] (r.toList ++ []) h' Q)) :
    T (d + 1) 130 0 [some (aR 1), some (aI v1), some (aI v2), none] [] (G, c) Q := by
  refine e_L (L' := [some (aR 1), some (aI v1), some (aI v2), none]) (st' := [aR 1]) (show decode (mC 130) 0 = .ok (.aload_n 0, 1) by decide +kernel) rfl (by show (if 1 = 0 then none else some (_, _)) = _; rw [if_neg (by decide)]) ?_
  refine e_getR (w := 9) (show decode (mC 130) 1 = .ok (.getfield 27, 3) by decide +kernel) (show pl 11 27 = some (0, 11, 1, 0) by decide +kernel) (by decide) (sh_ok hG (by decide +kernel)) (sh_rf hG (by decide +kernel)) ?_
  refine e_getIx (show decode (mC 130) 4 = .ok (.getfield 184, 3) by decide +kernel) (show pl 11 184 = some (0, 8, 0, 0) by decide +kernel) (by decide) (sh_ok hG (by decide +kernel)) ex1 ?_
  refine e_P (st' := [aI 1, aI x1]) (show decode (mC 130) 7 = .ok (.iconst 1, 1) by decide +kernel) rfl rfl rfl ?_
  refine e_lt2 (t := 22) (show decode (mC 130) 8 = .ok (.if_icmp .lt 14, 3) by decide +kernel) (by decide) s1 (by decide) (fun p1 => ?_) (fun p1 => ?_)
  · refine e_P (st' := [aI (-1)]) (show decode (mC 130) 22 = .ok (.iconst (-1), 1) by decide +kernel) rfl rfl rfl ?_
    exact e_iret (show decode (mC 130) 23 = .ok (.ireturn, 1) by decide +kernel) rfl (z2 p1)
  · refine e_L (L' := [some (aR 1), some (aI v1), some (aI v2), none]) (st' := [aR 1]) (show decode (mC 130) 11 = .ok (.aload_n 0, 1) by decide +kernel) rfl (by show (if 1 = 0 then none else some (_, _)) = _; rw [if_neg (by decide)]) ?_
    refine e_getR (w := 27) (show decode (mC 130) 12 = .ok (.getfield 34, 3) by decide +kernel) (show pl 11 34 = some (0, 11, 3, 0) by decide +kernel) (by decide) (sh_ok hG (by decide +kernel)) (sh_rf hG (by decide +kernel)) ?_
    refine e_L (L' := [some (aR 1), some (aI v1), some (aI v2), none]) (st' := [aI v1, aR 27]) (show decode (mC 130) 15 = .ok (.iload_n 1, 1) by decide +kernel) rfl rfl ?_
    exact e_V (as := [aR 27, aI v1]) (rest := []) (show decode (mC 130) 16 = .ok (.invokevirtual 288, 3) by decide +kernel) (by decide +kernel) (show (decide ((2 : Nat) = mA 32) && decide (32 < q_law)) = true by decide +kernel) rfl (show (0 : Nat) ≤ 8 by decide) (show (2 : Nat) ≤ mL 32 by decide +kernel) rfl (sh_ok hG (by decide +kernel)) (m3 p1)
/-- SoulOffice.drawn(II)I, from 19 -/
theorem b130_19 (hG : Shp G) {v1 v2 u0 : Int}
    (s0 : -2147483648 ≤ u0 ∧ u0 < 2147483648)
    (m1 : (¬ u0 = 0) → TM d 14 [aR 53, aR 27] (G, c) (fun r h' => T (d + 1) 130 35 [some (aR 1), some (aI v1), some (aI v2), none] (r.toList ++ []) h' Q))
    (z2 : (u0 = 0) → Q (.inl (some (aI (-1)))) (G, c)) :
    T (d + 1) 130 19 [some (aR 1), some (aI v1), some (aI v2), none] [aI u0] (G, c) Q := by
  refine e_ne1 (t := 24) (show decode (mC 130) 19 = .ok (.ifCond .ne 5, 3) by decide +kernel) (by decide) s0 (fun p1 => ?_) (fun p1 => ?_)
  · refine e_L (L' := [some (aR 1), some (aI v1), some (aI v2), none]) (st' := [aR 1]) (show decode (mC 130) 24 = .ok (.aload_n 0, 1) by decide +kernel) rfl (by show (if 1 = 0 then none else some (_, _)) = _; rw [if_neg (by decide)]) ?_
    refine e_getR (w := 53) (show decode (mC 130) 25 = .ok (.getfield 56, 3) by decide +kernel) (show pl 11 56 = some (0, 11, 7, 0) by decide +kernel) (by decide) (sh_ok hG (by decide +kernel)) (sh_rf hG (by decide +kernel)) ?_
    refine e_L (L' := [some (aR 1), some (aI v1), some (aI v2), none]) (st' := [aR 1, aR 53]) (show decode (mC 130) 28 = .ok (.aload_n 0, 1) by decide +kernel) rfl (by show (if 1 = 0 then none else some (_, _)) = _; rw [if_neg (by decide)]) ?_
    refine e_getR (w := 27) (show decode (mC 130) 29 = .ok (.getfield 34, 3) by decide +kernel) (show pl 11 34 = some (0, 11, 3, 0) by decide +kernel) (by decide) (sh_ok hG (by decide +kernel)) (sh_rf hG (by decide +kernel)) ?_
    exact e_V (as := [aR 53, aR 27]) (rest := []) (show decode (mC 130) 32 = .ok (.invokevirtual 145, 3) by decide +kernel) (by decide +kernel) (show (decide ((2 : Nat) = mA 14) && decide (14 < q_law)) = true by decide +kernel) rfl (show (0 : Nat) ≤ 8 by decide) (show (2 : Nat) ≤ mL 14 by decide +kernel) rfl (sh_ok hG (by decide +kernel)) (m1 p1)
  · refine e_P (st' := [aI (-1)]) (show decode (mC 130) 22 = .ok (.iconst (-1), 1) by decide +kernel) rfl rfl rfl ?_
    exact e_iret (show decode (mC 130) 23 = .ok (.ireturn, 1) by decide +kernel) rfl (z2 p1)
/-- SoulOffice.drawn(II)I, from 35 -/
theorem b130_35 (hG : Shp G) {v1 v2 : Int}
    (m0 : TM d 27 [aR 27] (G, c) (fun r h' => T (d + 1) 130 42 [some (aR 1), some (aI v1), some (aI v2), none] (r.toList ++ []) h' Q)) :
    T (d + 1) 130 35 [some (aR 1), some (aI v1), some (aI v2), none] [] (G, c) Q := by
  refine e_L (L' := [some (aR 1), some (aI v1), some (aI v2), none]) (st' := [aR 1]) (show decode (mC 130) 35 = .ok (.aload_n 0, 1) by decide +kernel) rfl (by show (if 1 = 0 then none else some (_, _)) = _; rw [if_neg (by decide)]) ?_
  refine e_getR (w := 27) (show decode (mC 130) 36 = .ok (.getfield 34, 3) by decide +kernel) (show pl 11 34 = some (0, 11, 3, 0) by decide +kernel) (by decide) (sh_ok hG (by decide +kernel)) (sh_rf hG (by decide +kernel)) ?_
  exact e_V (as := [aR 27]) (rest := []) (show decode (mC 130) 39 = .ok (.invokevirtual 264, 3) by decide +kernel) (by decide +kernel) (show (decide ((1 : Nat) = mA 27) && decide (27 < q_law)) = true by decide +kernel) rfl (show (0 : Nat) ≤ 8 by decide) (show (1 : Nat) ≤ mL 27 by decide +kernel) rfl (sh_ok hG (by decide +kernel)) m0
/-- SoulOffice.drawn(II)I, from 42 -/
theorem b130_42 (hG : Shp G) {v1 v2 u0 : Int} (hQ : ∀ o o' h', q_eqo o o' → Q o h' → Q o' h')
    (m0 : TM d 35 [aR 27, aI v1, aI v2] (G, c) (fun r h' => T (d + 1) 130 52 [some (aR 1), none, none, some (aI u0)] (r.toList ++ []) h' Q)) :
    T (d + 1) 130 42 [some (aR 1), some (aI v1), some (aI v2), none] [aI u0] (G, c) Q := by
  refine e_L (L' := [some (aR 1), some (aI v1), some (aI v2), some (aI u0)]) (st' := []) (show decode (mC 130) 42 = .ok (.istore_n 3, 1) by decide +kernel) rfl rfl ?_
  refine e_L (L' := [some (aR 1), some (aI v1), some (aI v2), some (aI u0)]) (st' := [aR 1]) (show decode (mC 130) 43 = .ok (.aload_n 0, 1) by decide +kernel) rfl (by show (if 1 = 0 then none else some (_, _)) = _; rw [if_neg (by decide)]) ?_
  refine e_getR (w := 27) (show decode (mC 130) 44 = .ok (.getfield 34, 3) by decide +kernel) (show pl 11 34 = some (0, 11, 3, 0) by decide +kernel) (by decide) (sh_ok hG (by decide +kernel)) (sh_rf hG (by decide +kernel)) ?_
  refine e_L (L' := [some (aR 1), some (aI v1), some (aI v2), some (aI u0)]) (st' := [aI v1, aR 27]) (show decode (mC 130) 47 = .ok (.iload_n 1, 1) by decide +kernel) rfl rfl ?_
  refine e_L (L' := [some (aR 1), some (aI v1), some (aI v2), some (aI u0)]) (st' := [aI v2, aI v1, aR 27]) (show decode (mC 130) 48 = .ok (.iload_n 2, 1) by decide +kernel) rfl rfl ?_
  exact e_V (as := [aR 27, aI v1, aI v2]) (rest := []) (show decode (mC 130) 49 = .ok (.invokevirtual 297, 3) by decide +kernel) (by decide +kernel) (show (decide ((3 : Nat) = mA 35) && decide (35 < q_law)) = true by decide +kernel) rfl (show (0 : Nat) ≤ 8 by decide) (show (3 : Nat) ≤ mL 35 by decide +kernel) rfl (sh_ok hG (by decide +kernel)) (tm_le hQ (leS (leN (leN (leS leE)))) m0)
/-- SoulOffice.drawn(II)I, from 52 -/
theorem b130_52 (hG : Shp G) {v3 : Int} (hQ : ∀ o o' h', q_eqo o o' → Q o h' → Q o' h')
    (m0 : TM d 27 [aR 27] (G, c) (fun r h' => T (d + 1) 130 59 [none, none, none, some (aI v3)] (r.toList ++ []) h' Q)) :
    T (d + 1) 130 52 [some (aR 1), none, none, some (aI v3)] [] (G, c) Q := by
  refine e_L (L' := [some (aR 1), none, none, some (aI v3)]) (st' := [aR 1]) (show decode (mC 130) 52 = .ok (.aload_n 0, 1) by decide +kernel) rfl (by show (if 1 = 0 then none else some (_, _)) = _; rw [if_neg (by decide)]) ?_
  refine e_getR (w := 27) (show decode (mC 130) 53 = .ok (.getfield 34, 3) by decide +kernel) (show pl 11 34 = some (0, 11, 3, 0) by decide +kernel) (by decide) (sh_ok hG (by decide +kernel)) (sh_rf hG (by decide +kernel)) ?_
  exact e_V (as := [aR 27]) (rest := []) (show decode (mC 130) 56 = .ok (.invokevirtual 264, 3) by decide +kernel) (by decide +kernel) (show (decide ((1 : Nat) = mA 27) && decide (27 < q_law)) = true by decide +kernel) rfl (show (0 : Nat) ≤ 8 by decide) (show (1 : Nat) ≤ mL 27 by decide +kernel) rfl (sh_ok hG (by decide +kernel)) (tm_le hQ (leN (leS (leS (leS leE)))) m0)
end QB18
