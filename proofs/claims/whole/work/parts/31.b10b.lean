section QB1
variable {d : Nat} {G : GG} {c : CC} {Q : OO → HH → Prop}
/-- SoulOffice$Tape.refuse(I)Z, from 0 -/
theorem b99_0 (hG : Shp G) {v1 : Int}
    (z0 : Q (.inl (some (aI 0))) (G, (q_up c 2 14 v1))) :
    T d 99 0 [some (aR 2), some (aI v1)] [] (G, c) Q := by
  refine e_L (L' := [some (aR 2), some (aI v1)]) (st' := [aR 2]) (show decode (mC 99) 0 = .ok (.aload_n 0, 1) by decide +kernel) rfl (by show (if 2 = 0 then none else some (_, _)) = _; rw [if_neg (by decide)]) ?_
  refine e_L (L' := [some (aR 2), some (aI v1)]) (st' := [aI v1, aR 2]) (show decode (mC 99) 1 = .ok (.iload_n 1, 1) by decide +kernel) rfl rfl ?_
  refine e_putI (show decode (mC 99) 2 = .ok (.putfield 39, 3) by decide +kernel) (show pl 10 39 = some (0, 10, 14, 0) by decide +kernel) (by decide) (sh_ok hG (by decide +kernel)) ?_
  refine e_P (st' := [aI 0]) (show decode (mC 99) 5 = .ok (.iconst 0, 1) by decide +kernel) rfl rfl rfl ?_
  exact e_zret (show decode (mC 99) 6 = .ok (.ireturn, 1) by decide +kernel) rfl (by decide) z0
/-- SoulOffice$Tape.endsHere()Z, from 0 -/
theorem b100_0 (hG : Shp G) {x1 x2 : Int} (hQ : ∀ o o' h', q_eqo o o' → Q o h' → Q o' h')
    (ex1 : c 2 10 = x1)
    (s1 : -2147483648 ≤ x1 ∧ x1 < 2147483648)
    (m2 : (¬ x1 = 0) → TM d 99 [aR 2, aI 1] (G, c) (fun r h' => T (d + 1) 100 19 [none] (r.toList ++ []) h' Q))
    (ex2 : c 2 9 = x2)
    (s4 : (x1 = 0) → -2147483648 ≤ x2 ∧ x2 < 2147483648)
    (z5 : (x1 = 0) → (x2 = 0) → Q (.inl (some (aI 1))) (G, c))
    (m6 : (x1 = 0) → (¬ x2 = 0) → TM d 99 [aR 2, aI 1] (G, c) (fun r h' => T (d + 1) 100 19 [none] (r.toList ++ []) h' Q)) :
    T (d + 1) 100 0 [some (aR 2)] [] (G, c) Q := by
  refine e_L (L' := [some (aR 2)]) (st' := [aR 2]) (show decode (mC 100) 0 = .ok (.aload_n 0, 1) by decide +kernel) rfl (by show (if 2 = 0 then none else some (_, _)) = _; rw [if_neg (by decide)]) ?_
  refine e_getIx (show decode (mC 100) 1 = .ok (.getfield 81, 3) by decide +kernel) (show pl 10 81 = some (0, 10, 10, 0) by decide +kernel) (by decide) (sh_ok hG (by decide +kernel)) ex1 ?_
  refine e_ne1 (t := 14) (show decode (mC 100) 4 = .ok (.ifCond .ne 10, 3) by decide +kernel) (by decide) s1 (fun p1 => ?_) (fun p1 => ?_)
  · refine e_L (L' := [some (aR 2)]) (st' := [aR 2]) (show decode (mC 100) 14 = .ok (.aload_n 0, 1) by decide +kernel) rfl (by show (if 2 = 0 then none else some (_, _)) = _; rw [if_neg (by decide)]) ?_
    refine e_P (st' := [aI 1, aR 2]) (show decode (mC 100) 15 = .ok (.iconst 1, 1) by decide +kernel) rfl rfl rfl ?_
    exact e_V (as := [aR 2, aI 1]) (rest := []) (show decode (mC 100) 16 = .ok (.invokevirtual 94, 3) by decide +kernel) (by decide +kernel) (show (decide ((2 : Nat) = mA 99) && decide (99 < q_law)) = true by decide +kernel) rfl (show (0 : Nat) ≤ 8 by decide) (show (2 : Nat) ≤ mL 99 by decide +kernel) rfl (sh_ok hG (by decide +kernel)) (tm_le hQ (leN leE) (m2 p1))
  · refine e_L (L' := [some (aR 2)]) (st' := [aR 2]) (show decode (mC 100) 7 = .ok (.aload_n 0, 1) by decide +kernel) rfl (by show (if 2 = 0 then none else some (_, _)) = _; rw [if_neg (by decide)]) ?_
    refine e_getIx (show decode (mC 100) 8 = .ok (.getfield 42, 3) by decide +kernel) (show pl 10 42 = some (0, 10, 9, 0) by decide +kernel) (by decide) (sh_ok hG (by decide +kernel)) ex2 ?_
    refine e_eq1 (t := 22) (show decode (mC 100) 11 = .ok (.ifCond .eq 11, 3) by decide +kernel) (by decide) (s4 p1) (fun p2 => ?_) (fun p2 => ?_)
    · refine e_P (st' := [aI 1]) (show decode (mC 100) 22 = .ok (.iconst 1, 1) by decide +kernel) rfl rfl rfl ?_
      refine e_go (t := 27) (show decode (mC 100) 23 = .ok (.goto 4, 3) by decide +kernel) (by decide) ?_
      exact e_zret (show decode (mC 100) 27 = .ok (.ireturn, 1) by decide +kernel) rfl (by decide) (z5 p1 p2)
    · refine e_L (L' := [some (aR 2)]) (st' := [aR 2]) (show decode (mC 100) 14 = .ok (.aload_n 0, 1) by decide +kernel) rfl (by show (if 2 = 0 then none else some (_, _)) = _; rw [if_neg (by decide)]) ?_
      refine e_P (st' := [aI 1, aR 2]) (show decode (mC 100) 15 = .ok (.iconst 1, 1) by decide +kernel) rfl rfl rfl ?_
      exact e_V (as := [aR 2, aI 1]) (rest := []) (show decode (mC 100) 16 = .ok (.invokevirtual 94, 3) by decide +kernel) (by decide +kernel) (show (decide ((2 : Nat) = mA 99) && decide (99 < q_law)) = true by decide +kernel) rfl (show (0 : Nat) ≤ 8 by decide) (show (2 : Nat) ≤ mL 99 by decide +kernel) rfl (sh_ok hG (by decide +kernel)) (tm_le hQ (leN leE) (m6 p1 p2))
/-- SoulOffice$Tape.endsHere()Z, from 19 -/
theorem b100_19 (hG : Shp G) {u0 : Int}
    (s0 : -2147483648 ≤ u0 ∧ u0 < 2147483648)
    (z1 : (u0 = 0) → Q (.inl (some (aI 0))) (G, c))
    (z2 : (¬ u0 = 0) → Q (.inl (some (aI 1))) (G, c)) :
    T (d + 1) 100 19 [none] [aI u0] (G, c) Q := by
  refine e_eq1 (t := 26) (show decode (mC 100) 19 = .ok (.ifCond .eq 7, 3) by decide +kernel) (by decide) s0 (fun p1 => ?_) (fun p1 => ?_)
  · refine e_P (st' := [aI 0]) (show decode (mC 100) 26 = .ok (.iconst 0, 1) by decide +kernel) rfl rfl rfl ?_
    exact e_zret (show decode (mC 100) 27 = .ok (.ireturn, 1) by decide +kernel) rfl (by decide) (z1 p1)
  · refine e_P (st' := [aI 1]) (show decode (mC 100) 22 = .ok (.iconst 1, 1) by decide +kernel) rfl rfl rfl ?_
    refine e_go (t := 27) (show decode (mC 100) 23 = .ok (.goto 4, 3) by decide +kernel) (by decide) ?_
    exact e_zret (show decode (mC 100) 27 = .ok (.ireturn, 1) by decide +kernel) rfl (by decide) (z2 p1)
/-- SoulOffice$Tape.isKey(I)Z, from 0 -/
theorem b101_0 (hG : Shp G) {v1 x1 x2 : Int}
    (ex1 : c 2 10 = x1)
    (s1 : -2147483648 ≤ x1 ∧ x1 < 2147483648)
    (z2 : (¬ x1 = 2) → Q (.inl (some (aI 0))) (G, c))
    (ex2 : c 2 12 = x2)
    (s4 : (x1 = 2) → -2147483648 ≤ x2 ∧ x2 < 2147483648)
    (s5 : (x1 = 2) → -2147483648 ≤ v1 ∧ v1 < 2147483648)
    (z6 : (x1 = 2) → (¬ x2 = v1) → Q (.inl (some (aI 0))) (G, c))
    (z7 : (x1 = 2) → (x2 = v1) → Q (.inl (some (aI 1))) (G, c)) :
    T d 101 0 [some (aR 2), some (aI v1)] [] (G, c) Q := by
  refine e_L (L' := [some (aR 2), some (aI v1)]) (st' := [aR 2]) (show decode (mC 101) 0 = .ok (.aload_n 0, 1) by decide +kernel) rfl (by show (if 2 = 0 then none else some (_, _)) = _; rw [if_neg (by decide)]) ?_
  refine e_getIx (show decode (mC 101) 1 = .ok (.getfield 81, 3) by decide +kernel) (show pl 10 81 = some (0, 10, 10, 0) by decide +kernel) (by decide) (sh_ok hG (by decide +kernel)) ex1 ?_
  refine e_P (st' := [aI 2, aI x1]) (show decode (mC 101) 4 = .ok (.iconst 2, 1) by decide +kernel) rfl rfl rfl ?_
  refine e_ne2 (t := 20) (show decode (mC 101) 5 = .ok (.if_icmp .ne 15, 3) by decide +kernel) (by decide) s1 (by decide) (fun p1 => ?_) (fun p1 => ?_)
  · refine e_P (st' := [aI 0]) (show decode (mC 101) 20 = .ok (.iconst 0, 1) by decide +kernel) rfl rfl rfl ?_
    exact e_zret (show decode (mC 101) 21 = .ok (.ireturn, 1) by decide +kernel) rfl (by decide) (z2 p1)
  · refine e_L (L' := [some (aR 2), some (aI v1)]) (st' := [aR 2]) (show decode (mC 101) 8 = .ok (.aload_n 0, 1) by decide +kernel) rfl (by show (if 2 = 0 then none else some (_, _)) = _; rw [if_neg (by decide)]) ?_
    refine e_getIx (show decode (mC 101) 9 = .ok (.getfield 87, 3) by decide +kernel) (show pl 10 87 = some (0, 10, 12, 0) by decide +kernel) (by decide) (sh_ok hG (by decide +kernel)) ex2 ?_
    refine e_L (L' := [some (aR 2), some (aI v1)]) (st' := [aI v1, aI x2]) (show decode (mC 101) 12 = .ok (.iload_n 1, 1) by decide +kernel) rfl rfl ?_
    refine e_ne2 (t := 20) (show decode (mC 101) 13 = .ok (.if_icmp .ne 7, 3) by decide +kernel) (by decide) (s4 p1) (s5 p1) (fun p2 => ?_) (fun p2 => ?_)
    · refine e_P (st' := [aI 0]) (show decode (mC 101) 20 = .ok (.iconst 0, 1) by decide +kernel) rfl rfl rfl ?_
      exact e_zret (show decode (mC 101) 21 = .ok (.ireturn, 1) by decide +kernel) rfl (by decide) (z6 p1 p2)
    · refine e_P (st' := [aI 1]) (show decode (mC 101) 16 = .ok (.iconst 1, 1) by decide +kernel) rfl rfl rfl ?_
      refine e_go (t := 21) (show decode (mC 101) 17 = .ok (.goto 4, 3) by decide +kernel) (by decide) ?_
      exact e_zret (show decode (mC 101) 21 = .ok (.ireturn, 1) by decide +kernel) rfl (by decide) (z7 p1 p2)
/-- SoulOffice$Tape.isSign(C)Z, from 0 -/
theorem b102_0 (hG : Shp G) {v1 x1 x2 : Int}
    (ex1 : c 2 10 = x1)
    (s1 : -2147483648 ≤ x1 ∧ x1 < 2147483648)
    (z2 : (¬ x1 = 4) → Q (.inl (some (aI 0))) (G, c))
    (ex2 : c 2 12 = x2)
    (s4 : (x1 = 4) → -2147483648 ≤ x2 ∧ x2 < 2147483648)
    (s5 : (x1 = 4) → -2147483648 ≤ v1 ∧ v1 < 2147483648)
    (z6 : (x1 = 4) → (¬ x2 = v1) → Q (.inl (some (aI 0))) (G, c))
    (z7 : (x1 = 4) → (x2 = v1) → Q (.inl (some (aI 1))) (G, c)) :
    T d 102 0 [some (aR 2), some (aI v1)] [] (G, c) Q := by
  refine e_L (L' := [some (aR 2), some (aI v1)]) (st' := [aR 2]) (show decode (mC 102) 0 = .ok (.aload_n 0, 1) by decide +kernel) rfl (by show (if 2 = 0 then none else some (_, _)) = _; rw [if_neg (by decide)]) ?_
  refine e_getIx (show decode (mC 102) 1 = .ok (.getfield 81, 3) by decide +kernel) (show pl 10 81 = some (0, 10, 10, 0) by decide +kernel) (by decide) (sh_ok hG (by decide +kernel)) ex1 ?_
  refine e_P (st' := [aI 4, aI x1]) (show decode (mC 102) 4 = .ok (.iconst 4, 1) by decide +kernel) rfl rfl rfl ?_
  refine e_ne2 (t := 20) (show decode (mC 102) 5 = .ok (.if_icmp .ne 15, 3) by decide +kernel) (by decide) s1 (by decide) (fun p1 => ?_) (fun p1 => ?_)
  · refine e_P (st' := [aI 0]) (show decode (mC 102) 20 = .ok (.iconst 0, 1) by decide +kernel) rfl rfl rfl ?_
    exact e_zret (show decode (mC 102) 21 = .ok (.ireturn, 1) by decide +kernel) rfl (by decide) (z2 p1)
  · refine e_L (L' := [some (aR 2), some (aI v1)]) (st' := [aR 2]) (show decode (mC 102) 8 = .ok (.aload_n 0, 1) by decide +kernel) rfl (by show (if 2 = 0 then none else some (_, _)) = _; rw [if_neg (by decide)]) ?_
    refine e_getIx (show decode (mC 102) 9 = .ok (.getfield 87, 3) by decide +kernel) (show pl 10 87 = some (0, 10, 12, 0) by decide +kernel) (by decide) (sh_ok hG (by decide +kernel)) ex2 ?_
    refine e_L (L' := [some (aR 2), some (aI v1)]) (st' := [aI v1, aI x2]) (show decode (mC 102) 12 = .ok (.iload_n 1, 1) by decide +kernel) rfl rfl ?_
    refine e_ne2 (t := 20) (show decode (mC 102) 13 = .ok (.if_icmp .ne 7, 3) by decide +kernel) (by decide) (s4 p1) (s5 p1) (fun p2 => ?_) (fun p2 => ?_)
    · refine e_P (st' := [aI 0]) (show decode (mC 102) 20 = .ok (.iconst 0, 1) by decide +kernel) rfl rfl rfl ?_
      exact e_zret (show decode (mC 102) 21 = .ok (.ireturn, 1) by decide +kernel) rfl (by decide) (z6 p1 p2)
    · refine e_P (st' := [aI 1]) (show decode (mC 102) 16 = .ok (.iconst 1, 1) by decide +kernel) rfl rfl rfl ?_
      refine e_go (t := 21) (show decode (mC 102) 17 = .ok (.goto 4, 3) by decide +kernel) (by decide) ?_
      exact e_zret (show decode (mC 102) 21 = .ok (.ireturn, 1) by decide +kernel) rfl (by decide) (z7 p1 p2)
/-- SoulOffice$Tape.takeSign(C)Z, from 0 -/
theorem b103_0 (hG : Shp G) {v1 : Int} (hQ : ∀ o o' h', q_eqo o o' → Q o h' → Q o' h')
    (m0 : TM d 102 [aR 2, aI v1] (G, c) (fun r h' => T (d + 1) 103 5 [some (aR 2), none] (r.toList ++ []) h' Q)) :
    T (d + 1) 103 0 [some (aR 2), some (aI v1)] [] (G, c) Q := by
  refine e_L (L' := [some (aR 2), some (aI v1)]) (st' := [aR 2]) (show decode (mC 103) 0 = .ok (.aload_n 0, 1) by decide +kernel) rfl (by show (if 2 = 0 then none else some (_, _)) = _; rw [if_neg (by decide)]) ?_
  refine e_L (L' := [some (aR 2), some (aI v1)]) (st' := [aI v1, aR 2]) (show decode (mC 103) 1 = .ok (.iload_n 1, 1) by decide +kernel) rfl rfl ?_
  exact e_V (as := [aR 2, aI v1]) (rest := []) (show decode (mC 103) 2 = .ok (.invokevirtual 97, 3) by decide +kernel) (by decide +kernel) (show (decide ((2 : Nat) = mA 102) && decide (102 < q_law)) = true by decide +kernel) rfl (show (0 : Nat) ≤ 8 by decide) (show (2 : Nat) ≤ mL 102 by decide +kernel) rfl (sh_ok hG (by decide +kernel)) (tm_le hQ (leS (leN leE)) m0)
/-- SoulOffice$Tape.takeSign(C)Z, from 5 -/
theorem b103_5 (hG : Shp G) {u0 : Int} (hQ : ∀ o o' h', q_eqo o o' → Q o h' → Q o' h')
    (s0 : -2147483648 ≤ u0 ∧ u0 < 2147483648)
    (m1 : (¬ u0 = 0) → TM d 98 [aR 2] (G, c) (fun r h' => T (d + 1) 103 18 [none, none] (r.toList ++ []) h' Q))
    (m2 : (u0 = 0) → TM d 99 [aR 2, aI 1] (G, c) (fun r h' => T (d + 1) 103 13 [none, none] (r.toList ++ []) h' Q)) :
    T (d + 1) 103 5 [some (aR 2), none] [aI u0] (G, c) Q := by
  refine e_ne1 (t := 14) (show decode (mC 103) 5 = .ok (.ifCond .ne 9, 3) by decide +kernel) (by decide) s0 (fun p1 => ?_) (fun p1 => ?_)
  · refine e_L (L' := [some (aR 2), none]) (st' := [aR 2]) (show decode (mC 103) 14 = .ok (.aload_n 0, 1) by decide +kernel) rfl (by show (if 2 = 0 then none else some (_, _)) = _; rw [if_neg (by decide)]) ?_
    exact e_V (as := [aR 2]) (rest := []) (show decode (mC 103) 15 = .ok (.invokevirtual 70, 3) by decide +kernel) (by decide +kernel) (show (decide ((1 : Nat) = mA 98) && decide (98 < q_law)) = true by decide +kernel) rfl (show (0 : Nat) ≤ 8 by decide) (show (1 : Nat) ≤ mL 98 by decide +kernel) rfl (sh_ok hG (by decide +kernel)) (tm_le hQ (leN (leS leE)) (m1 p1))
  · refine e_L (L' := [some (aR 2), none]) (st' := [aR 2]) (show decode (mC 103) 8 = .ok (.aload_n 0, 1) by decide +kernel) rfl (by show (if 2 = 0 then none else some (_, _)) = _; rw [if_neg (by decide)]) ?_
    refine e_P (st' := [aI 1, aR 2]) (show decode (mC 103) 9 = .ok (.iconst 1, 1) by decide +kernel) rfl rfl rfl ?_
    exact e_V (as := [aR 2, aI 1]) (rest := []) (show decode (mC 103) 10 = .ok (.invokevirtual 94, 3) by decide +kernel) (by decide +kernel) (show (decide ((2 : Nat) = mA 99) && decide (99 < q_law)) = true by decide +kernel) rfl (show (0 : Nat) ≤ 8 by decide) (show (2 : Nat) ≤ mL 99 by decide +kernel) rfl (sh_ok hG (by decide +kernel)) (tm_le hQ (leN (leS leE)) (m2 p1))
/-- SoulOffice$Tape.takeSign(C)Z, from 13 -/
theorem b103_13 (hG : Shp G) {u0 : Int}
    (s0 : u0 = 0 ∨ u0 = 1)
    (z1 : Q (.inl (some (aI u0))) (G, c)) :
    T (d + 1) 103 13 [none, none] [aI u0] (G, c) Q := by
  exact e_zret (show decode (mC 103) 13 = .ok (.ireturn, 1) by decide +kernel) rfl s0 z1
/-- SoulOffice$Tape.takeSign(C)Z, from 18 -/
theorem b103_18 (hG : Shp G)
    (z0 : Q (.inl (some (aI 1))) (G, c)) :
    T (d + 1) 103 18 [none, none] [] (G, c) Q := by
  refine e_P (st' := [aI 1]) (show decode (mC 103) 18 = .ok (.iconst 1, 1) by decide +kernel) rfl rfl rfl ?_
  exact e_zret (show decode (mC 103) 19 = .ok (.ireturn, 1) by decide +kernel) rfl (by decide) z0
/-- SoulOffice$Tape.takeKey(I)Z, from 0 -/
theorem b104_0 (hG : Shp G) {v1 : Int} (hQ : ∀ o o' h', q_eqo o o' → Q o h' → Q o' h')
    (m0 : TM d 101 [aR 2, aI v1] (G, c) (fun r h' => T (d + 1) 104 5 [some (aR 2), none] (r.toList ++ []) h' Q)) :
    T (d + 1) 104 0 [some (aR 2), some (aI v1)] [] (G, c) Q := by
  refine e_L (L' := [some (aR 2), some (aI v1)]) (st' := [aR 2]) (show decode (mC 104) 0 = .ok (.aload_n 0, 1) by decide +kernel) rfl (by show (if 2 = 0 then none else some (_, _)) = _; rw [if_neg (by decide)]) ?_
  refine e_L (L' := [some (aR 2), some (aI v1)]) (st' := [aI v1, aR 2]) (show decode (mC 104) 1 = .ok (.iload_n 1, 1) by decide +kernel) rfl rfl ?_
  exact e_V (as := [aR 2, aI v1]) (rest := []) (show decode (mC 104) 2 = .ok (.invokevirtual 101, 3) by decide +kernel) (by decide +kernel) (show (decide ((2 : Nat) = mA 101) && decide (101 < q_law)) = true by decide +kernel) rfl (show (0 : Nat) ≤ 8 by decide) (show (2 : Nat) ≤ mL 101 by decide +kernel) rfl (sh_ok hG (by decide +kernel)) (tm_le hQ (leS (leN leE)) m0)
/-- SoulOffice$Tape.takeKey(I)Z, from 5 -/
theorem b104_5 (hG : Shp G) {u0 : Int} (hQ : ∀ o o' h', q_eqo o o' → Q o h' → Q o' h')
    (s0 : -2147483648 ≤ u0 ∧ u0 < 2147483648)
    (m1 : (¬ u0 = 0) → TM d 98 [aR 2] (G, c) (fun r h' => T (d + 1) 104 18 [none, none] (r.toList ++ []) h' Q))
    (m2 : (u0 = 0) → TM d 99 [aR 2, aI 1] (G, c) (fun r h' => T (d + 1) 104 13 [none, none] (r.toList ++ []) h' Q)) :
    T (d + 1) 104 5 [some (aR 2), none] [aI u0] (G, c) Q := by
  refine e_ne1 (t := 14) (show decode (mC 104) 5 = .ok (.ifCond .ne 9, 3) by decide +kernel) (by decide) s0 (fun p1 => ?_) (fun p1 => ?_)
  · refine e_L (L' := [some (aR 2), none]) (st' := [aR 2]) (show decode (mC 104) 14 = .ok (.aload_n 0, 1) by decide +kernel) rfl (by show (if 2 = 0 then none else some (_, _)) = _; rw [if_neg (by decide)]) ?_
    exact e_V (as := [aR 2]) (rest := []) (show decode (mC 104) 15 = .ok (.invokevirtual 70, 3) by decide +kernel) (by decide +kernel) (show (decide ((1 : Nat) = mA 98) && decide (98 < q_law)) = true by decide +kernel) rfl (show (0 : Nat) ≤ 8 by decide) (show (1 : Nat) ≤ mL 98 by decide +kernel) rfl (sh_ok hG (by decide +kernel)) (tm_le hQ (leN (leS leE)) (m1 p1))
  · refine e_L (L' := [some (aR 2), none]) (st' := [aR 2]) (show decode (mC 104) 8 = .ok (.aload_n 0, 1) by decide +kernel) rfl (by show (if 2 = 0 then none else some (_, _)) = _; rw [if_neg (by decide)]) ?_
    refine e_P (st' := [aI 1, aR 2]) (show decode (mC 104) 9 = .ok (.iconst 1, 1) by decide +kernel) rfl rfl rfl ?_
    exact e_V (as := [aR 2, aI 1]) (rest := []) (show decode (mC 104) 10 = .ok (.invokevirtual 94, 3) by decide +kernel) (by decide +kernel) (show (decide ((2 : Nat) = mA 99) && decide (99 < q_law)) = true by decide +kernel) rfl (show (0 : Nat) ≤ 8 by decide) (show (2 : Nat) ≤ mL 99 by decide +kernel) rfl (sh_ok hG (by decide +kernel)) (tm_le hQ (leN (leS leE)) (m2 p1))
/-- SoulOffice$Tape.takeKey(I)Z, from 13 -/
theorem b104_13 (hG : Shp G) {u0 : Int}
    (s0 : u0 = 0 ∨ u0 = 1)
    (z1 : Q (.inl (some (aI u0))) (G, c)) :
    T (d + 1) 104 13 [none, none] [aI u0] (G, c) Q := by
  exact e_zret (show decode (mC 104) 13 = .ok (.ireturn, 1) by decide +kernel) rfl s0 z1
/-- SoulOffice$Tape.takeKey(I)Z, from 18 -/
theorem b104_18 (hG : Shp G)
    (z0 : Q (.inl (some (aI 1))) (G, c)) :
    T (d + 1) 104 18 [none, none] [] (G, c) Q := by
  refine e_P (st' := [aI 1]) (show decode (mC 104) 18 = .ok (.iconst 1, 1) by decide +kernel) rfl rfl rfl ?_
  exact e_zret (show decode (mC 104) 19 = .ok (.ireturn, 1) by decide +kernel) rfl (by decide) z0
/-- SoulOffice$Tape.takeNumber(II)I, from 0 -/
theorem b105_0 (hG : Shp G) {v1 v2 x1 x2 x3 x4 : Int} (hQ : ∀ o o' h', q_eqo o o' → Q o h' → Q o' h')
    (ex1 : c 2 10 = x1)
    (s1 : -2147483648 ≤ x1 ∧ x1 < 2147483648)
    (ex2 : c 2 12 = x2)
    (s3 : (x1 = 3) → -2147483648 ≤ x2 ∧ x2 < 2147483648)
    (s4 : (x1 = 3) → -2147483648 ≤ v1 ∧ v1 < 2147483648)
    (m5 : (x1 = 3) → (x2 < v1) → TM d 99 [aR 2, aI 2] (G, c) (fun r h' => T (d + 1) 105 37 [none, none, none, none] (r.toList ++ []) h' Q))
    (ex3 : c 2 12 = x3)
    (s7 : (x1 = 3) → (v1 ≤ x2) → -2147483648 ≤ x3 ∧ x3 < 2147483648)
    (s8 : (x1 = 3) → (v1 ≤ x2) → -2147483648 ≤ v2 ∧ v2 < 2147483648)
    (ex4 : c 2 12 = x4)
    (m10 : (x1 = 3) → (v1 ≤ x2) → (x3 ≤ v2) → TM d 98 [aR 2] (G, c) (fun r h' => T (d + 1) 105 49 [none, none, none, some (aI x4)] (r.toList ++ []) h' Q))
    (m11 : (x1 = 3) → (v1 ≤ x2) → (v2 < x3) → TM d 99 [aR 2, aI 2] (G, c) (fun r h' => T (d + 1) 105 37 [none, none, none, none] (r.toList ++ []) h' Q))
    (m12 : (¬ x1 = 3) → TM d 99 [aR 2, aI 1] (G, c) (fun r h' => T (d + 1) 105 13 [none, none, none, none] (r.toList ++ []) h' Q)) :
    T (d + 1) 105 0 [some (aR 2), some (aI v1), some (aI v2), none] [] (G, c) Q := by
  refine e_L (L' := [some (aR 2), some (aI v1), some (aI v2), none]) (st' := [aR 2]) (show decode (mC 105) 0 = .ok (.aload_n 0, 1) by decide +kernel) rfl (by show (if 2 = 0 then none else some (_, _)) = _; rw [if_neg (by decide)]) ?_
  refine e_getIx (show decode (mC 105) 1 = .ok (.getfield 81, 3) by decide +kernel) (show pl 10 81 = some (0, 10, 10, 0) by decide +kernel) (by decide) (sh_ok hG (by decide +kernel)) ex1 ?_
  refine e_P (st' := [aI 3, aI x1]) (show decode (mC 105) 4 = .ok (.iconst 3, 1) by decide +kernel) rfl rfl rfl ?_
  refine e_eq2 (t := 16) (show decode (mC 105) 5 = .ok (.if_icmp .eq 11, 3) by decide +kernel) (by decide) s1 (by decide) (fun p1 => ?_) (fun p1 => ?_)
  · refine e_L (L' := [some (aR 2), some (aI v1), some (aI v2), none]) (st' := [aR 2]) (show decode (mC 105) 16 = .ok (.aload_n 0, 1) by decide +kernel) rfl (by show (if 2 = 0 then none else some (_, _)) = _; rw [if_neg (by decide)]) ?_
    refine e_getIx (show decode (mC 105) 17 = .ok (.getfield 87, 3) by decide +kernel) (show pl 10 87 = some (0, 10, 12, 0) by decide +kernel) (by decide) (sh_ok hG (by decide +kernel)) ex2 ?_
    refine e_L (L' := [some (aR 2), some (aI v1), some (aI v2), none]) (st' := [aI v1, aI x2]) (show decode (mC 105) 20 = .ok (.iload_n 1, 1) by decide +kernel) rfl rfl ?_
    refine e_lt2 (t := 32) (show decode (mC 105) 21 = .ok (.if_icmp .lt 11, 3) by decide +kernel) (by decide) (s3 p1) (s4 p1) (fun p2 => ?_) (fun p2 => ?_)
    · refine e_L (L' := [some (aR 2), some (aI v1), some (aI v2), none]) (st' := [aR 2]) (show decode (mC 105) 32 = .ok (.aload_n 0, 1) by decide +kernel) rfl (by show (if 2 = 0 then none else some (_, _)) = _; rw [if_neg (by decide)]) ?_
      refine e_P (st' := [aI 2, aR 2]) (show decode (mC 105) 33 = .ok (.iconst 2, 1) by decide +kernel) rfl rfl rfl ?_
      exact e_V (as := [aR 2, aI 2]) (rest := []) (show decode (mC 105) 34 = .ok (.invokevirtual 94, 3) by decide +kernel) (by decide +kernel) (show (decide ((2 : Nat) = mA 99) && decide (99 < q_law)) = true by decide +kernel) rfl (show (0 : Nat) ≤ 8 by decide) (show (2 : Nat) ≤ mL 99 by decide +kernel) rfl (sh_ok hG (by decide +kernel)) (tm_le hQ (leN (leN (leN (leS leE)))) (m5 p1 p2))
    · refine e_L (L' := [some (aR 2), some (aI v1), some (aI v2), none]) (st' := [aR 2]) (show decode (mC 105) 24 = .ok (.aload_n 0, 1) by decide +kernel) rfl (by show (if 2 = 0 then none else some (_, _)) = _; rw [if_neg (by decide)]) ?_
      refine e_getIx (show decode (mC 105) 25 = .ok (.getfield 87, 3) by decide +kernel) (show pl 10 87 = some (0, 10, 12, 0) by decide +kernel) (by decide) (sh_ok hG (by decide +kernel)) ex3 ?_
      refine e_L (L' := [some (aR 2), some (aI v1), some (aI v2), none]) (st' := [aI v2, aI x3]) (show decode (mC 105) 28 = .ok (.iload_n 2, 1) by decide +kernel) rfl rfl ?_
      refine e_le2 (t := 40) (show decode (mC 105) 29 = .ok (.if_icmp .le 11, 3) by decide +kernel) (by decide) (s7 p1 p2) (s8 p1 p2) (fun p3 => ?_) (fun p3 => ?_)
      · refine e_L (L' := [some (aR 2), some (aI v1), some (aI v2), none]) (st' := [aR 2]) (show decode (mC 105) 40 = .ok (.aload_n 0, 1) by decide +kernel) rfl (by show (if 2 = 0 then none else some (_, _)) = _; rw [if_neg (by decide)]) ?_
        refine e_getIx (show decode (mC 105) 41 = .ok (.getfield 87, 3) by decide +kernel) (show pl 10 87 = some (0, 10, 12, 0) by decide +kernel) (by decide) (sh_ok hG (by decide +kernel)) ex4 ?_
        refine e_L (L' := [some (aR 2), some (aI v1), some (aI v2), some (aI x4)]) (st' := []) (show decode (mC 105) 44 = .ok (.istore_n 3, 1) by decide +kernel) rfl rfl ?_
        refine e_L (L' := [some (aR 2), some (aI v1), some (aI v2), some (aI x4)]) (st' := [aR 2]) (show decode (mC 105) 45 = .ok (.aload_n 0, 1) by decide +kernel) rfl (by show (if 2 = 0 then none else some (_, _)) = _; rw [if_neg (by decide)]) ?_
        exact e_V (as := [aR 2]) (rest := []) (show decode (mC 105) 46 = .ok (.invokevirtual 70, 3) by decide +kernel) (by decide +kernel) (show (decide ((1 : Nat) = mA 98) && decide (98 < q_law)) = true by decide +kernel) rfl (show (0 : Nat) ≤ 8 by decide) (show (1 : Nat) ≤ mL 98 by decide +kernel) rfl (sh_ok hG (by decide +kernel)) (tm_le hQ (leN (leN (leN (leS leE)))) (m10 p1 p2 p3))
      · refine e_L (L' := [some (aR 2), some (aI v1), some (aI v2), none]) (st' := [aR 2]) (show decode (mC 105) 32 = .ok (.aload_n 0, 1) by decide +kernel) rfl (by show (if 2 = 0 then none else some (_, _)) = _; rw [if_neg (by decide)]) ?_
        refine e_P (st' := [aI 2, aR 2]) (show decode (mC 105) 33 = .ok (.iconst 2, 1) by decide +kernel) rfl rfl rfl ?_
        exact e_V (as := [aR 2, aI 2]) (rest := []) (show decode (mC 105) 34 = .ok (.invokevirtual 94, 3) by decide +kernel) (by decide +kernel) (show (decide ((2 : Nat) = mA 99) && decide (99 < q_law)) = true by decide +kernel) rfl (show (0 : Nat) ≤ 8 by decide) (show (2 : Nat) ≤ mL 99 by decide +kernel) rfl (sh_ok hG (by decide +kernel)) (tm_le hQ (leN (leN (leN (leS leE)))) (m11 p1 p2 p3))
  · refine e_L (L' := [some (aR 2), some (aI v1), some (aI v2), none]) (st' := [aR 2]) (show decode (mC 105) 8 = .ok (.aload_n 0, 1) by decide +kernel) rfl (by show (if 2 = 0 then none else some (_, _)) = _; rw [if_neg (by decide)]) ?_
    refine e_P (st' := [aI 1, aR 2]) (show decode (mC 105) 9 = .ok (.iconst 1, 1) by decide +kernel) rfl rfl rfl ?_
    exact e_V (as := [aR 2, aI 1]) (rest := []) (show decode (mC 105) 10 = .ok (.invokevirtual 94, 3) by decide +kernel) (by decide +kernel) (show (decide ((2 : Nat) = mA 99) && decide (99 < q_law)) = true by decide +kernel) rfl (show (0 : Nat) ≤ 8 by decide) (show (2 : Nat) ≤ mL 99 by decide +kernel) rfl (sh_ok hG (by decide +kernel)) (tm_le hQ (leN (leN (leN (leS leE)))) (m12 p1))
/-- SoulOffice$Tape.takeNumber(II)I, from 13 -/
theorem b105_13 (hG : Shp G) {u0 : Int}
    (z0 : Q (.inl (some (aI (-1)))) (G, c)) :
    T (d + 1) 105 13 [none, none, none, none] [aI u0] (G, c) Q := by
  refine e_P (st' := []) (show decode (mC 105) 13 = .ok (.pop, 1) by decide +kernel) rfl rfl rfl ?_
  refine e_P (st' := [aI (-1)]) (show decode (mC 105) 14 = .ok (.iconst (-1), 1) by decide +kernel) rfl rfl rfl ?_
  exact e_iret (show decode (mC 105) 15 = .ok (.ireturn, 1) by decide +kernel) rfl z0
/-- SoulOffice$Tape.takeNumber(II)I, from 37 -/
theorem b105_37 (hG : Shp G) {u0 : Int}
    (z0 : Q (.inl (some (aI (-1)))) (G, c)) :
    T (d + 1) 105 37 [none, none, none, none] [aI u0] (G, c) Q := by
  refine e_P (st' := []) (show decode (mC 105) 37 = .ok (.pop, 1) by decide +kernel) rfl rfl rfl ?_
  refine e_P (st' := [aI (-1)]) (show decode (mC 105) 38 = .ok (.iconst (-1), 1) by decide +kernel) rfl rfl rfl ?_
  exact e_iret (show decode (mC 105) 39 = .ok (.ireturn, 1) by decide +kernel) rfl z0
/-- SoulOffice$Tape.takeNumber(II)I, from 49 -/
theorem b105_49 (hG : Shp G) {v3 : Int}
    (z0 : Q (.inl (some (aI v3))) (G, c)) :
    T (d + 1) 105 49 [none, none, none, some (aI v3)] [] (G, c) Q := by
  refine e_L (L' := [none, none, none, some (aI v3)]) (st' := [aI v3]) (show decode (mC 105) 49 = .ok (.iload_n 3, 1) by decide +kernel) rfl rfl ?_
  exact e_iret (show decode (mC 105) 50 = .ok (.ireturn, 1) by decide +kernel) rfl z0
/-- SoulOffice$Tape.nameHere([JI)I, from 0 -/
theorem b106_0 (hG : Shp G) {v2 x1 x2 : Int} {r1 n_r1 : Nat} (o_r1 : okR G r1 21) (l_r1 : lnR G r1 n_r1) (b_r1 : n_r1 ≤ 3000) (hQ : ∀ o o' h', q_eqo o o' → Q o h' → Q o' h')
    (ex1 : c 2 10 = x1)
    (s1 : -2147483648 ≤ x1 ∧ x1 < 2147483648)
    (ex2 : c 2 13 = x2)
    (m3 : (x1 = 1) → TM d 108 [aL x2, aR r1, aI v2] (G, c) (fun r h' => T (d + 1) 106 25 [some (aR 2), none, none, none] (r.toList ++ []) h' Q))
    (m4 : (¬ x1 = 1) → TM d 99 [aR 2, aI 1] (G, c) (fun r h' => T (d + 1) 106 13 [none, none, none, none] (r.toList ++ []) h' Q)) :
    T (d + 1) 106 0 [some (aR 2), some (aR r1), some (aI v2), none] [] (G, c) Q := by
  refine e_L (L' := [some (aR 2), some (aR r1), some (aI v2), none]) (st' := [aR 2]) (show decode (mC 106) 0 = .ok (.aload_n 0, 1) by decide +kernel) rfl (by show (if 2 = 0 then none else some (_, _)) = _; rw [if_neg (by decide)]) ?_
  refine e_getIx (show decode (mC 106) 1 = .ok (.getfield 81, 3) by decide +kernel) (show pl 10 81 = some (0, 10, 10, 0) by decide +kernel) (by decide) (sh_ok hG (by decide +kernel)) ex1 ?_
  refine e_P (st' := [aI 1, aI x1]) (show decode (mC 106) 4 = .ok (.iconst 1, 1) by decide +kernel) rfl rfl rfl ?_
  refine e_eq2 (t := 16) (show decode (mC 106) 5 = .ok (.if_icmp .eq 11, 3) by decide +kernel) (by decide) s1 (by decide) (fun p1 => ?_) (fun p1 => ?_)
  · refine e_L (L' := [some (aR 2), some (aR r1), some (aI v2), none]) (st' := [aR 2]) (show decode (mC 106) 16 = .ok (.aload_n 0, 1) by decide +kernel) rfl (by show (if 2 = 0 then none else some (_, _)) = _; rw [if_neg (by decide)]) ?_
    refine e_getLx (show decode (mC 106) 17 = .ok (.getfield 90, 3) by decide +kernel) (show pl 10 90 = some (0, 10, 13, 0) by decide +kernel) (by decide) (sh_ok hG (by decide +kernel)) ex2 ?_
    refine e_L (L' := [some (aR 2), some (aR r1), some (aI v2), none]) (st' := [aR r1, aL x2]) (show decode (mC 106) 20 = .ok (.aload_n 1, 1) by decide +kernel) rfl (by show (if r1 = 0 then none else some (_, _)) = _; rw [if_neg (okR_ne o_r1)]) ?_
    refine e_L (L' := [some (aR 2), some (aR r1), some (aI v2), none]) (st' := [aI v2, aR r1, aL x2]) (show decode (mC 106) 21 = .ok (.iload_n 2, 1) by decide +kernel) rfl rfl ?_
    exact e_S (as := [aL x2, aR r1, aI v2]) (rest := []) (show decode (mC 106) 22 = .ok (.invokestatic 77, 3) by decide +kernel) (by decide +kernel) (show (decide ((3 : Nat) = mA 108) && decide (108 < q_law)) = true by decide +kernel) rfl (show (0 : Nat) ≤ 8 by decide) (show (4 : Nat) ≤ mL 108 by decide +kernel) (tm_le hQ (leS (leN (leN (leS leE)))) (m3 p1))
  · refine e_L (L' := [some (aR 2), some (aR r1), some (aI v2), none]) (st' := [aR 2]) (show decode (mC 106) 8 = .ok (.aload_n 0, 1) by decide +kernel) rfl (by show (if 2 = 0 then none else some (_, _)) = _; rw [if_neg (by decide)]) ?_
    refine e_P (st' := [aI 1, aR 2]) (show decode (mC 106) 9 = .ok (.iconst 1, 1) by decide +kernel) rfl rfl rfl ?_
    exact e_V (as := [aR 2, aI 1]) (rest := []) (show decode (mC 106) 10 = .ok (.invokevirtual 94, 3) by decide +kernel) (by decide +kernel) (show (decide ((2 : Nat) = mA 99) && decide (99 < q_law)) = true by decide +kernel) rfl (show (0 : Nat) ≤ 8 by decide) (show (2 : Nat) ≤ mL 99 by decide +kernel) rfl (sh_ok hG (by decide +kernel)) (tm_le hQ (leN (leN (leN (leS leE)))) (m4 p1))
/-- SoulOffice$Tape.nameHere([JI)I, from 13 -/
theorem b106_13 (hG : Shp G) {u0 : Int}
    (z0 : Q (.inl (some (aI (-1)))) (G, c)) :
    T (d + 1) 106 13 [none, none, none, none] [aI u0] (G, c) Q := by
  refine e_P (st' := []) (show decode (mC 106) 13 = .ok (.pop, 1) by decide +kernel) rfl rfl rfl ?_
  refine e_P (st' := [aI (-1)]) (show decode (mC 106) 14 = .ok (.iconst (-1), 1) by decide +kernel) rfl rfl rfl ?_
  exact e_iret (show decode (mC 106) 15 = .ok (.ireturn, 1) by decide +kernel) rfl z0
/-- SoulOffice$Tape.nameHere([JI)I, from 25 -/
theorem b106_25 (hG : Shp G) {u0 : Int} (hQ : ∀ o o' h', q_eqo o o' → Q o h' → Q o' h')
    (s0 : -2147483648 ≤ u0 ∧ u0 < 2147483648)
    (z1 : (¬ u0 = (-1)) → Q (.inl (some (aI u0))) (G, c))
    (m2 : (u0 = (-1)) → TM d 99 [aR 2, aI 3] (G, c) (fun r h' => T (d + 1) 106 36 [none, none, none, some (aI u0)] (r.toList ++ []) h' Q)) :
    T (d + 1) 106 25 [some (aR 2), none, none, none] [aI u0] (G, c) Q := by
  refine e_L (L' := [some (aR 2), none, none, some (aI u0)]) (st' := []) (show decode (mC 106) 25 = .ok (.istore_n 3, 1) by decide +kernel) rfl rfl ?_
  refine e_L (L' := [some (aR 2), none, none, some (aI u0)]) (st' := [aI u0]) (show decode (mC 106) 26 = .ok (.iload_n 3, 1) by decide +kernel) rfl rfl ?_
  refine e_P (st' := [aI (-1), aI u0]) (show decode (mC 106) 27 = .ok (.iconst (-1), 1) by decide +kernel) rfl rfl rfl ?_
  refine e_ne2 (t := 37) (show decode (mC 106) 28 = .ok (.if_icmp .ne 9, 3) by decide +kernel) (by decide) s0 (by decide) (fun p1 => ?_) (fun p1 => ?_)
  · refine e_L (L' := [some (aR 2), none, none, some (aI u0)]) (st' := [aI u0]) (show decode (mC 106) 37 = .ok (.iload_n 3, 1) by decide +kernel) rfl rfl ?_
    exact e_iret (show decode (mC 106) 38 = .ok (.ireturn, 1) by decide +kernel) rfl (z1 p1)
  · refine e_L (L' := [some (aR 2), none, none, some (aI u0)]) (st' := [aR 2]) (show decode (mC 106) 31 = .ok (.aload_n 0, 1) by decide +kernel) rfl (by show (if 2 = 0 then none else some (_, _)) = _; rw [if_neg (by decide)]) ?_
    refine e_P (st' := [aI 3, aR 2]) (show decode (mC 106) 32 = .ok (.iconst 3, 1) by decide +kernel) rfl rfl rfl ?_
    exact e_V (as := [aR 2, aI 3]) (rest := []) (show decode (mC 106) 33 = .ok (.invokevirtual 94, 3) by decide +kernel) (by decide +kernel) (show (decide ((2 : Nat) = mA 99) && decide (99 < q_law)) = true by decide +kernel) rfl (show (0 : Nat) ≤ 8 by decide) (show (2 : Nat) ≤ mL 99 by decide +kernel) rfl (sh_ok hG (by decide +kernel)) (tm_le hQ (leN (leS (leS (leS leE)))) (m2 p1))
/-- SoulOffice$Tape.nameHere([JI)I, from 36 -/
theorem b106_36 (hG : Shp G) {v3 u0 : Int}
    (z0 : Q (.inl (some (aI v3))) (G, c)) :
    T (d + 1) 106 36 [none, none, none, some (aI v3)] [aI u0] (G, c) Q := by
  refine e_P (st' := []) (show decode (mC 106) 36 = .ok (.pop, 1) by decide +kernel) rfl rfl rfl ?_
  refine e_L (L' := [none, none, none, some (aI v3)]) (st' := [aI v3]) (show decode (mC 106) 37 = .ok (.iload_n 3, 1) by decide +kernel) rfl rfl ?_
  exact e_iret (show decode (mC 106) 38 = .ok (.ireturn, 1) by decide +kernel) rfl z0
/-- SoulOffice$Tape.takeName([JI)I, from 0 -/
theorem b107_0 (hG : Shp G) {v2 : Int} {r1 n_r1 : Nat} (o_r1 : okR G r1 21) (l_r1 : lnR G r1 n_r1) (b_r1 : n_r1 ≤ 3000) (hQ : ∀ o o' h', q_eqo o o' → Q o h' → Q o' h')
    (m0 : TM d 106 [aR 2, aR r1, aI v2] (G, c) (fun r h' => T (d + 1) 107 6 [some (aR 2), none, none, none] (r.toList ++ []) h' Q)) :
    T (d + 1) 107 0 [some (aR 2), some (aR r1), some (aI v2), none] [] (G, c) Q := by
  refine e_L (L' := [some (aR 2), some (aR r1), some (aI v2), none]) (st' := [aR 2]) (show decode (mC 107) 0 = .ok (.aload_n 0, 1) by decide +kernel) rfl (by show (if 2 = 0 then none else some (_, _)) = _; rw [if_neg (by decide)]) ?_
  refine e_L (L' := [some (aR 2), some (aR r1), some (aI v2), none]) (st' := [aR r1, aR 2]) (show decode (mC 107) 1 = .ok (.aload_n 1, 1) by decide +kernel) rfl (by show (if r1 = 0 then none else some (_, _)) = _; rw [if_neg (okR_ne o_r1)]) ?_
  refine e_L (L' := [some (aR 2), some (aR r1), some (aI v2), none]) (st' := [aI v2, aR r1, aR 2]) (show decode (mC 107) 2 = .ok (.iload_n 2, 1) by decide +kernel) rfl rfl ?_
  exact e_V (as := [aR 2, aR r1, aI v2]) (rest := []) (show decode (mC 107) 3 = .ok (.invokevirtual 104, 3) by decide +kernel) (by decide +kernel) (show (decide ((3 : Nat) = mA 106) && decide (106 < q_law)) = true by decide +kernel) rfl (show (0 : Nat) ≤ 8 by decide) (show (3 : Nat) ≤ mL 106 by decide +kernel) rfl (sh_ok hG (by decide +kernel)) (tm_le hQ (leS (leN (leN (leS leE)))) m0)
/-- SoulOffice$Tape.takeName([JI)I, from 6 -/
theorem b107_6 (hG : Shp G) {u0 : Int} (hQ : ∀ o o' h', q_eqo o o' → Q o h' → Q o' h')
    (s0 : -2147483648 ≤ u0 ∧ u0 < 2147483648)
    (k1 : (u0 = (-1)) → T (d + 1) 107 16 [none, none, none, some (aI u0)] [] (G, c) Q)
    (m2 : (¬ u0 = (-1)) → TM d 98 [aR 2] (G, c) (fun r h' => T (d + 1) 107 16 [none, none, none, some (aI u0)] (r.toList ++ []) h' Q)) :
    T (d + 1) 107 6 [some (aR 2), none, none, none] [aI u0] (G, c) Q := by
  refine e_L (L' := [some (aR 2), none, none, some (aI u0)]) (st' := []) (show decode (mC 107) 6 = .ok (.istore_n 3, 1) by decide +kernel) rfl rfl ?_
  refine e_L (L' := [some (aR 2), none, none, some (aI u0)]) (st' := [aI u0]) (show decode (mC 107) 7 = .ok (.iload_n 3, 1) by decide +kernel) rfl rfl ?_
  refine e_P (st' := [aI (-1), aI u0]) (show decode (mC 107) 8 = .ok (.iconst (-1), 1) by decide +kernel) rfl rfl rfl ?_
  refine e_eq2 (t := 16) (show decode (mC 107) 9 = .ok (.if_icmp .eq 7, 3) by decide +kernel) (by decide) s0 (by decide) (fun p1 => ?_) (fun p1 => ?_)
  · exact T_le hQ (leN (leS (leS (leS leE)))) (k1 p1)
  · refine e_L (L' := [some (aR 2), none, none, some (aI u0)]) (st' := [aR 2]) (show decode (mC 107) 12 = .ok (.aload_n 0, 1) by decide +kernel) rfl (by show (if 2 = 0 then none else some (_, _)) = _; rw [if_neg (by decide)]) ?_
    exact e_V (as := [aR 2]) (rest := []) (show decode (mC 107) 13 = .ok (.invokevirtual 70, 3) by decide +kernel) (by decide +kernel) (show (decide ((1 : Nat) = mA 98) && decide (98 < q_law)) = true by decide +kernel) rfl (show (0 : Nat) ≤ 8 by decide) (show (1 : Nat) ≤ mL 98 by decide +kernel) rfl (sh_ok hG (by decide +kernel)) (tm_le hQ (leN (leS (leS (leS leE)))) (m2 p1))
/-- SoulOffice$Tape.takeName([JI)I, from 16 -/
theorem b107_16 (hG : Shp G) {v3 : Int}
    (z0 : Q (.inl (some (aI v3))) (G, c)) :
    T (d + 1) 107 16 [none, none, none, some (aI v3)] [] (G, c) Q := by
  refine e_L (L' := [none, none, none, some (aI v3)]) (st' := [aI v3]) (show decode (mC 107) 16 = .ok (.iload_n 3, 1) by decide +kernel) rfl rfl ?_
  exact e_iret (show decode (mC 107) 17 = .ok (.ireturn, 1) by decide +kernel) rfl z0
/-- SoulOffice$Tape.placeOf(J[JI)I, from 0 -/
theorem b108_0 (hG : Shp G) {v0 v3 : Int} {r2 n_r2 : Nat} (o_r2 : okR G r2 21) (l_r2 : lnR G r2 n_r2) (b_r2 : n_r2 ≤ 3000)
    (k0 : T d 108 3 [some (aL v0), none, some (aR r2), some (aI v3), some (aI 0)] [] (G, c) Q) :
    T d 108 0 [some (aL v0), none, some (aR r2), some (aI v3), none] [] (G, c) Q := by
  refine e_P (st' := [aI 0]) (show decode (mC 108) 0 = .ok (.iconst 0, 1) by decide +kernel) rfl rfl rfl ?_
  refine e_L (L' := [some (aL v0), none, some (aR r2), some (aI v3), some (aI 0)]) (st' := []) (show decode (mC 108) 1 = .ok (.istore 4, 2) by decide +kernel) rfl rfl ?_
  exact k0
/-- SoulOffice$Tape.placeOf(J[JI)I, from 3 -/
theorem b108_3 (hG : Shp G) {v0 v3 v4 x1 : Int} {r2 n_r2 : Nat} (o_r2 : okR G r2 21) (l_r2 : lnR G r2 n_r2) (b_r2 : n_r2 ≤ 3000)
    (s0 : -2147483648 ≤ v4 ∧ v4 < 2147483648)
    (s1 : -2147483648 ≤ v3 ∧ v3 < 2147483648)
    (z2 : (v3 ≤ v4) → Q (.inl (some (aI (-1)))) (G, c))
    (s3 : (v4 < v3) → -2147483648 ≤ ((n_r2 : Nat) : Int) ∧ ((n_r2 : Nat) : Int) < 2147483648)
    (z4 : (v4 < v3) → (((n_r2 : Nat) : Int) ≤ v4) → Q (.inl (some (aI (-1)))) (G, c))
    (s5 : (v4 < v3) → (v4 < ((n_r2 : Nat) : Int)) → 0 ≤ v4)
    (s6 : (v4 < v3) → (v4 < ((n_r2 : Nat) : Int)) → v4 < ((n_r2 : Nat) : Int))
    (ex1 : c r2 v4 = x1)
    (s8 : (v4 < v3) → (v4 < ((n_r2 : Nat) : Int)) → -9223372036854775808 ≤ x1 ∧ x1 < 9223372036854775808)
    (s9 : (v4 < v3) → (v4 < ((n_r2 : Nat) : Int)) → -9223372036854775808 ≤ v0 ∧ v0 < 9223372036854775808)
    (s10 : (v4 < v3) → (v4 < ((n_r2 : Nat) : Int)) → -2147483648 ≤ (if x1 < v0 then (-1 : Int) else if x1 = v0 then 0 else 1) ∧ (if x1 < v0 then (-1 : Int) else if x1 = v0 then 0 else 1) < 2147483648)
    (k11 : (v4 < v3) → (v4 < ((n_r2 : Nat) : Int)) → (¬ (if x1 < v0 then (-1 : Int) else if x1 = v0 then 0 else 1) = 0) → T d 108 3 [some (aL v0), none, some (aR r2), some (aI v3), some (aI (v4 + 1))] [] (G, c) Q)
    (z12 : (v4 < v3) → (v4 < ((n_r2 : Nat) : Int)) → ((if x1 < v0 then (-1 : Int) else if x1 = v0 then 0 else 1) = 0) → Q (.inl (some (aI v4))) (G, c)) :
    T d 108 3 [some (aL v0), none, some (aR r2), some (aI v3), some (aI v4)] [] (G, c) Q := by
  refine e_L (L' := [some (aL v0), none, some (aR r2), some (aI v3), some (aI v4)]) (st' := [aI v4]) (show decode (mC 108) 3 = .ok (.iload 4, 2) by decide +kernel) rfl rfl ?_
  refine e_L (L' := [some (aL v0), none, some (aR r2), some (aI v3), some (aI v4)]) (st' := [aI v3, aI v4]) (show decode (mC 108) 5 = .ok (.iload_n 3, 1) by decide +kernel) rfl rfl ?_
  refine e_ge2 (t := 34) (show decode (mC 108) 6 = .ok (.if_icmp .ge 28, 3) by decide +kernel) (by decide) s0 s1 (fun p1 => ?_) (fun p1 => ?_)
  · refine e_P (st' := [aI (-1)]) (show decode (mC 108) 34 = .ok (.iconst (-1), 1) by decide +kernel) rfl rfl rfl ?_
    exact e_iret (show decode (mC 108) 35 = .ok (.ireturn, 1) by decide +kernel) rfl (z2 p1)
  · refine e_L (L' := [some (aL v0), none, some (aR r2), some (aI v3), some (aI v4)]) (st' := [aI v4]) (show decode (mC 108) 9 = .ok (.iload 4, 2) by decide +kernel) rfl rfl ?_
    refine e_L (L' := [some (aL v0), none, some (aR r2), some (aI v3), some (aI v4)]) (st' := [aR r2, aI v4]) (show decode (mC 108) 11 = .ok (.aload_n 2, 1) by decide +kernel) rfl (by show (if r2 = 0 then none else some (_, _)) = _; rw [if_neg (okR_ne o_r2)]) ?_
    refine e_alen (n := n_r2) (ki := 21) (show decode (mC 108) 12 = .ok (.arraylength, 1) by decide +kernel) o_r2 (by decide) l_r2 ?_
    refine e_ge2 (t := 34) (show decode (mC 108) 13 = .ok (.if_icmp .ge 21, 3) by decide +kernel) (by decide) s0 (s3 p1) (fun p2 => ?_) (fun p2 => ?_)
    · refine e_P (st' := [aI (-1)]) (show decode (mC 108) 34 = .ok (.iconst (-1), 1) by decide +kernel) rfl rfl rfl ?_
      exact e_iret (show decode (mC 108) 35 = .ok (.ireturn, 1) by decide +kernel) rfl (z4 p1 p2)
    · refine e_L (L' := [some (aL v0), none, some (aR r2), some (aI v3), some (aI v4)]) (st' := [aR r2]) (show decode (mC 108) 16 = .ok (.aload_n 2, 1) by decide +kernel) rfl (by show (if r2 = 0 then none else some (_, _)) = _; rw [if_neg (okR_ne o_r2)]) ?_
      refine e_L (L' := [some (aL v0), none, some (aR r2), some (aI v3), some (aI v4)]) (st' := [aI v4, aR r2]) (show decode (mC 108) 17 = .ok (.iload 4, 2) by decide +kernel) rfl rfl ?_
      refine e_laldx (n := n_r2) (show decode (mC 108) 19 = .ok (.laload, 1) by decide +kernel) o_r2 l_r2 b_r2 (s5 p1 p2) (s6 p1 p2) ex1 ?_
      refine e_L (L' := [some (aL v0), none, some (aR r2), some (aI v3), some (aI v4)]) (st' := [aL v0, aL x1]) (show decode (mC 108) 20 = .ok (.lload_n 0, 1) by decide +kernel) rfl rfl ?_
      refine e_lcmp (show decode (mC 108) 21 = .ok (.lcmp, 1) by decide +kernel) (s8 p1 p2) (s9 p1 p2) ?_
      refine e_ne1 (t := 28) (show decode (mC 108) 22 = .ok (.ifCond .ne 6, 3) by decide +kernel) (by decide) (s10 p1 p2) (fun p3 => ?_) (fun p3 => ?_)
      · refine e_L (L' := [some (aL v0), none, some (aR r2), some (aI v3), some (aI (v4 + 1))]) (st' := []) (show decode (mC 108) 28 = .ok (.iinc 4 1, 3) by decide +kernel) rfl rfl ?_
        refine e_go (t := 3) (show decode (mC 108) 31 = .ok (.goto (-28), 3) by decide +kernel) (by decide) ?_
        exact (k11 p1 p2 p3)
      · refine e_L (L' := [some (aL v0), none, some (aR r2), some (aI v3), some (aI v4)]) (st' := [aI v4]) (show decode (mC 108) 25 = .ok (.iload 4, 2) by decide +kernel) rfl rfl ?_
        exact e_iret (show decode (mC 108) 27 = .ok (.ireturn, 1) by decide +kernel) rfl (z12 p1 p2 p3)
end QB1
