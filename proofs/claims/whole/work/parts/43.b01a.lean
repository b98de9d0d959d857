section QB13
variable {d : Nat} {G : GG} {c : CC} {Q : OO → HH → Prop}
/-- SoulOffice$Book.readLines()Z, from 0 -/
theorem b8_0 (hG : Shp G)
    (m0 : TM d 95 [aR 2, aI 400] (G, (q_up c 120 2 0)) (fun r h' => T (d + 1) 8 15 [some (aR 120), none] (r.toList ++ []) h' Q)) :
    T (d + 1) 8 0 [some (aR 120), none] [] (G, c) Q := by
  refine e_L (L' := [some (aR 120), none]) (st' := [aR 120]) (show decode (mC 8) 0 = .ok (.aload_n 0, 1) by decide +kernel) rfl (by show (if 120 = 0 then none else some (_, _)) = _; rw [if_neg (by decide)]) ?_
  refine e_P (st' := [aI 0, aR 120]) (show decode (mC 8) 1 = .ok (.iconst 0, 1) by decide +kernel) rfl rfl rfl ?_
  refine e_putI (show decode (mC 8) 2 = .ok (.putfield 29, 3) by decide +kernel) (show pl 1 29 = some (0, 1, 2, 0) by decide +kernel) (by decide) (sh_ok hG (by decide +kernel)) ?_
  refine e_L (L' := [some (aR 120), none]) (st' := [aR 120]) (show decode (mC 8) 5 = .ok (.aload_n 0, 1) by decide +kernel) rfl (by show (if 120 = 0 then none else some (_, _)) = _; rw [if_neg (by decide)]) ?_
  refine e_getR (w := 2) (show decode (mC 8) 6 = .ok (.getfield 21, 3) by decide +kernel) (show pl 1 21 = some (0, 1, 0, 0) by decide +kernel) (by decide) (sh_ok hG (by decide +kernel)) (sh_rf hG (by decide +kernel)) ?_
  refine e_P (st' := [aI 400, aR 2]) (show decode (mC 8) 9 = .ok (.sipush 400, 3) by decide +kernel) rfl rfl rfl ?_
  exact e_V (as := [aR 2, aI 400]) (rest := []) (show decode (mC 8) 12 = .ok (.invokevirtual 33, 3) by decide +kernel) (by decide +kernel) (show (decide ((2 : Nat) = mA 95) && decide (95 < q_law)) = true by decide +kernel) rfl (show (0 : Nat) ≤ 8 by decide) (show (2 : Nat) ≤ mL 95 by decide +kernel) rfl (sh_ok hG (by decide +kernel)) m0
/-- SoulOffice$Book.readLines()Z, from 15 -/
theorem b8_15 (hG : Shp G)
    (k0 : T (d + 1) 8 17 [some (aR 120), some (aI 0)] [] (G, c) Q) :
    T (d + 1) 8 15 [some (aR 120), none] [] (G, c) Q := by
  refine e_P (st' := [aI 0]) (show decode (mC 8) 15 = .ok (.iconst 0, 1) by decide +kernel) rfl rfl rfl ?_
  refine e_L (L' := [some (aR 120), some (aI 0)]) (st' := []) (show decode (mC 8) 16 = .ok (.istore_n 1, 1) by decide +kernel) rfl rfl ?_
  exact k0
/-- SoulOffice$Book.readLines()Z, from 17 -/
theorem b8_17 (hG : Shp G) {v1 x1 : Int} (hQ : ∀ o o' h', q_eqo o o' → Q o h' → Q o' h')
    (s0 : -2147483648 ≤ v1 ∧ v1 < 2147483648)
    (z1 : (30 < v1) → Q (.inl (some (aI 0))) (G, c))
    (ex1 : c 2 10 = x1)
    (s3 : (v1 ≤ 30) → -2147483648 ≤ x1 ∧ x1 < 2147483648)
    (m4 : (v1 ≤ 30) → (¬ x1 = 0) → TM d 9 [aR 120] (G, c) (fun r h' => T (d + 1) 8 45 [some (aR 120), some (aI v1)] (r.toList ++ []) h' Q))
    (m5 : (v1 ≤ 30) → (x1 = 0) → TM d 100 [aR 2] (G, c) (fun r h' => T (d + 1) 8 40 [none, none] (r.toList ++ []) h' Q)) :
    T (d + 1) 8 17 [some (aR 120), some (aI v1)] [] (G, c) Q := by
  refine e_L (L' := [some (aR 120), some (aI v1)]) (st' := [aI v1]) (show decode (mC 8) 17 = .ok (.iload_n 1, 1) by decide +kernel) rfl rfl ?_
  refine e_P (st' := [aI 30, aI v1]) (show decode (mC 8) 18 = .ok (.bipush 30, 2) by decide +kernel) rfl rfl rfl ?_
  refine e_gt2 (t := 68) (show decode (mC 8) 20 = .ok (.if_icmp .gt 48, 3) by decide +kernel) (by decide) s0 (by decide) (fun p1 => ?_) (fun p1 => ?_)
  · refine e_P (st' := [aI 0]) (show decode (mC 8) 68 = .ok (.iconst 0, 1) by decide +kernel) rfl rfl rfl ?_
    exact e_zret (show decode (mC 8) 69 = .ok (.ireturn, 1) by decide +kernel) rfl (by decide) (z1 p1)
  · refine e_L (L' := [some (aR 120), some (aI v1)]) (st' := [aR 120]) (show decode (mC 8) 23 = .ok (.aload_n 0, 1) by decide +kernel) rfl (by show (if 120 = 0 then none else some (_, _)) = _; rw [if_neg (by decide)]) ?_
    refine e_getR (w := 2) (show decode (mC 8) 24 = .ok (.getfield 21, 3) by decide +kernel) (show pl 1 21 = some (0, 1, 0, 0) by decide +kernel) (by decide) (sh_ok hG (by decide +kernel)) (sh_rf hG (by decide +kernel)) ?_
    refine e_getIx (show decode (mC 8) 27 = .ok (.getfield 39, 3) by decide +kernel) (show pl 1 39 = some (0, 10, 10, 0) by decide +kernel) (by decide) (sh_ok hG (by decide +kernel)) ex1 ?_
    refine e_ne1 (t := 41) (show decode (mC 8) 30 = .ok (.ifCond .ne 11, 3) by decide +kernel) (by decide) (s3 p1) (fun p2 => ?_) (fun p2 => ?_)
    · refine e_L (L' := [some (aR 120), some (aI v1)]) (st' := [aR 120]) (show decode (mC 8) 41 = .ok (.aload_n 0, 1) by decide +kernel) rfl (by show (if 120 = 0 then none else some (_, _)) = _; rw [if_neg (by decide)]) ?_
      exact e_V (as := [aR 120]) (rest := []) (show decode (mC 8) 42 = .ok (.invokevirtual 46, 3) by decide +kernel) (by decide +kernel) (show (decide ((1 : Nat) = mA 9) && decide (9 < q_law)) = true by decide +kernel) rfl (show (0 : Nat) ≤ 8 by decide) (show (1 : Nat) ≤ mL 9 by decide +kernel) rfl (sh_ok hG (by decide +kernel)) (m4 p1 p2)
    · refine e_L (L' := [some (aR 120), some (aI v1)]) (st' := [aR 120]) (show decode (mC 8) 33 = .ok (.aload_n 0, 1) by decide +kernel) rfl (by show (if 120 = 0 then none else some (_, _)) = _; rw [if_neg (by decide)]) ?_
      refine e_getR (w := 2) (show decode (mC 8) 34 = .ok (.getfield 21, 3) by decide +kernel) (show pl 1 21 = some (0, 1, 0, 0) by decide +kernel) (by decide) (sh_ok hG (by decide +kernel)) (sh_rf hG (by decide +kernel)) ?_
      exact e_V (as := [aR 2]) (rest := []) (show decode (mC 8) 37 = .ok (.invokevirtual 42, 3) by decide +kernel) (by decide +kernel) (show (decide ((1 : Nat) = mA 100) && decide (100 < q_law)) = true by decide +kernel) rfl (show (0 : Nat) ≤ 8 by decide) (show (1 : Nat) ≤ mL 100 by decide +kernel) rfl (sh_ok hG (by decide +kernel)) (tm_le hQ (leN (leN leE)) (m5 p1 p2))
/-- SoulOffice$Book.readLines()Z, from 40 -/
theorem b8_40 (hG : Shp G) {u0 : Int}
    (s0 : u0 = 0 ∨ u0 = 1)
    (z1 : Q (.inl (some (aI u0))) (G, c)) :
    T (d + 1) 8 40 [none, none] [aI u0] (G, c) Q := by
  exact e_zret (show decode (mC 8) 40 = .ok (.ireturn, 1) by decide +kernel) rfl s0 z1
/-- SoulOffice$Book.readLines()Z, from 45 -/
theorem b8_45 (hG : Shp G) {v1 u0 : Int}
    (s0 : -2147483648 ≤ u0 ∧ u0 < 2147483648)
    (z1 : (u0 = 0) → Q (.inl (some (aI 0))) (G, c))
    (m2 : (¬ u0 = 0) → TM d 103 [aR 2, aI 59] (G, c) (fun r h' => T (d + 1) 8 57 [some (aR 120), some (aI v1)] (r.toList ++ []) h' Q)) :
    T (d + 1) 8 45 [some (aR 120), some (aI v1)] [aI u0] (G, c) Q := by
  refine e_eq1 (t := 60) (show decode (mC 8) 45 = .ok (.ifCond .eq 15, 3) by decide +kernel) (by decide) s0 (fun p1 => ?_) (fun p1 => ?_)
  · refine e_P (st' := [aI 0]) (show decode (mC 8) 60 = .ok (.iconst 0, 1) by decide +kernel) rfl rfl rfl ?_
    exact e_zret (show decode (mC 8) 61 = .ok (.ireturn, 1) by decide +kernel) rfl (by decide) (z1 p1)
  · refine e_L (L' := [some (aR 120), some (aI v1)]) (st' := [aR 120]) (show decode (mC 8) 48 = .ok (.aload_n 0, 1) by decide +kernel) rfl (by show (if 120 = 0 then none else some (_, _)) = _; rw [if_neg (by decide)]) ?_
    refine e_getR (w := 2) (show decode (mC 8) 49 = .ok (.getfield 21, 3) by decide +kernel) (show pl 1 21 = some (0, 1, 0, 0) by decide +kernel) (by decide) (sh_ok hG (by decide +kernel)) (sh_rf hG (by decide +kernel)) ?_
    refine e_P (st' := [aI 59, aR 2]) (show decode (mC 8) 52 = .ok (.bipush 59, 2) by decide +kernel) rfl rfl rfl ?_
    exact e_V (as := [aR 2, aI 59]) (rest := []) (show decode (mC 8) 54 = .ok (.invokevirtual 49, 3) by decide +kernel) (by decide +kernel) (show (decide ((2 : Nat) = mA 103) && decide (103 < q_law)) = true by decide +kernel) rfl (show (0 : Nat) ≤ 8 by decide) (show (2 : Nat) ≤ mL 103 by decide +kernel) rfl (sh_ok hG (by decide +kernel)) (m2 p1)
/-- SoulOffice$Book.readLines()Z, from 57 -/
theorem b8_57 (hG : Shp G) {v1 u0 : Int}
    (s0 : -2147483648 ≤ u0 ∧ u0 < 2147483648)
    (k1 : (¬ u0 = 0) → T (d + 1) 8 17 [some (aR 120), some (aI (v1 + 1))] [] (G, c) Q)
    (z2 : (u0 = 0) → Q (.inl (some (aI 0))) (G, c)) :
    T (d + 1) 8 57 [some (aR 120), some (aI v1)] [aI u0] (G, c) Q := by
  refine e_ne1 (t := 62) (show decode (mC 8) 57 = .ok (.ifCond .ne 5, 3) by decide +kernel) (by decide) s0 (fun p1 => ?_) (fun p1 => ?_)
  · refine e_L (L' := [some (aR 120), some (aI (v1 + 1))]) (st' := []) (show decode (mC 8) 62 = .ok (.iinc 1 1, 3) by decide +kernel) rfl rfl ?_
    refine e_go (t := 17) (show decode (mC 8) 65 = .ok (.goto (-48), 3) by decide +kernel) (by decide) ?_
    exact (k1 p1)
  · refine e_P (st' := [aI 0]) (show decode (mC 8) 60 = .ok (.iconst 0, 1) by decide +kernel) rfl rfl rfl ?_
    exact e_zret (show decode (mC 8) 61 = .ok (.ireturn, 1) by decide +kernel) rfl (by decide) (z2 p1)
/-- SoulOffice$Book.readLine()Z, from 0 -/
theorem b9_0 (hG : Shp G)
    (m0 : TM d 101 [aR 2, aI 8] (G, c) (fun r h' => T (d + 1) 9 9 [some (aR 120), none, none, none] (r.toList ++ []) h' Q)) :
    T (d + 1) 9 0 [some (aR 120), none, none, none] [] (G, c) Q := by
  refine e_L (L' := [some (aR 120), none, none, none]) (st' := [aR 120]) (show decode (mC 9) 0 = .ok (.aload_n 0, 1) by decide +kernel) rfl (by show (if 120 = 0 then none else some (_, _)) = _; rw [if_neg (by decide)]) ?_
  refine e_getR (w := 2) (show decode (mC 9) 1 = .ok (.getfield 21, 3) by decide +kernel) (show pl 1 21 = some (0, 1, 0, 0) by decide +kernel) (by decide) (sh_ok hG (by decide +kernel)) (sh_rf hG (by decide +kernel)) ?_
  refine e_P (st' := [aI 8, aR 2]) (show decode (mC 9) 4 = .ok (.bipush 8, 2) by decide +kernel) rfl rfl rfl ?_
  exact e_V (as := [aR 2, aI 8]) (rest := []) (show decode (mC 9) 6 = .ok (.invokevirtual 53, 3) by decide +kernel) (by decide +kernel) (show (decide ((2 : Nat) = mA 101) && decide (101 < q_law)) = true by decide +kernel) rfl (show (0 : Nat) ≤ 8 by decide) (show (2 : Nat) ≤ mL 101 by decide +kernel) rfl (sh_ok hG (by decide +kernel)) m0
/-- SoulOffice$Book.readLine()Z, from 9 -/
theorem b9_9 (hG : Shp G) {u0 x1 : Int} (hQ : ∀ o o' h', q_eqo o o' → Q o h' → Q o' h')
    (s0 : -2147483648 ≤ u0 ∧ u0 < 2147483648)
    (m1 : (u0 = 0) → TM d 101 [aR 2, aI 9] (G, c) (fun r h' => T (d + 1) 9 26 [some (aR 120), none, none, none] (r.toList ++ []) h' Q))
    (ex1 : c 120 2 = x1)
    (s3 : (¬ u0 = 0) → -2147483648 ≤ x1 ∧ x1 < 2147483648)
    (m4 : (¬ u0 = 0) → (x1 < 30) → TM d 98 [aR 2] (G, c) (fun r h' => T (d + 1) 9 99 [some (aR 120), some (aI 8), some (aI (-1)), none] (r.toList ++ []) h' Q))
    (m5 : (¬ u0 = 0) → (30 ≤ x1) → TM d 99 [aR 2, aI 4] (G, c) (fun r h' => T (d + 1) 9 91 [none, none, none, none] (r.toList ++ []) h' Q)) :
    T (d + 1) 9 9 [some (aR 120), none, none, none] [aI u0] (G, c) Q := by
  refine e_eq1 (t := 17) (show decode (mC 9) 9 = .ok (.ifCond .eq 8, 3) by decide +kernel) (by decide) s0 (fun p1 => ?_) (fun p1 => ?_)
  · refine e_L (L' := [some (aR 120), none, none, none]) (st' := [aR 120]) (show decode (mC 9) 17 = .ok (.aload_n 0, 1) by decide +kernel) rfl (by show (if 120 = 0 then none else some (_, _)) = _; rw [if_neg (by decide)]) ?_
    refine e_getR (w := 2) (show decode (mC 9) 18 = .ok (.getfield 21, 3) by decide +kernel) (show pl 1 21 = some (0, 1, 0, 0) by decide +kernel) (by decide) (sh_ok hG (by decide +kernel)) (sh_rf hG (by decide +kernel)) ?_
    refine e_P (st' := [aI 9, aR 2]) (show decode (mC 9) 21 = .ok (.bipush 9, 2) by decide +kernel) rfl rfl rfl ?_
    exact e_V (as := [aR 2, aI 9]) (rest := []) (show decode (mC 9) 23 = .ok (.invokevirtual 53, 3) by decide +kernel) (by decide +kernel) (show (decide ((2 : Nat) = mA 101) && decide (101 < q_law)) = true by decide +kernel) rfl (show (0 : Nat) ≤ 8 by decide) (show (2 : Nat) ≤ mL 101 by decide +kernel) rfl (sh_ok hG (by decide +kernel)) (m1 p1)
  · refine e_P (st' := [aI 8]) (show decode (mC 9) 12 = .ok (.bipush 8, 2) by decide +kernel) rfl rfl rfl ?_
    refine e_go (t := 36) (show decode (mC 9) 14 = .ok (.goto 22, 3) by decide +kernel) (by decide) ?_
    refine e_L (L' := [some (aR 120), some (aI 8), none, none]) (st' := []) (show decode (mC 9) 36 = .ok (.istore_n 1, 1) by decide +kernel) rfl rfl ?_
    refine e_P (st' := [aI (-1)]) (show decode (mC 9) 37 = .ok (.iconst (-1), 1) by decide +kernel) rfl rfl rfl ?_
    refine e_L (L' := [some (aR 120), some (aI 8), some (aI (-1)), none]) (st' := []) (show decode (mC 9) 38 = .ok (.istore_n 2, 1) by decide +kernel) rfl rfl ?_
    refine e_L (L' := [some (aR 120), some (aI 8), some (aI (-1)), none]) (st' := [aI 8]) (show decode (mC 9) 39 = .ok (.iload_n 1, 1) by decide +kernel) rfl rfl ?_
    refine e_P (st' := [aI 7, aI 8]) (show decode (mC 9) 40 = .ok (.bipush 7, 2) by decide +kernel) rfl rfl rfl ?_
    refine e_ne2 (t := 74) (show decode (mC 9) 42 = .ok (.if_icmp .ne 32, 3) by decide +kernel) (by decide) (by decide) (by decide) (fun _ => ?_) (fun h => absurd h (by decide))
    refine e_L (L' := [some (aR 120), some (aI 8), some (aI (-1)), none]) (st' := [aR 120]) (show decode (mC 9) 74 = .ok (.aload_n 0, 1) by decide +kernel) rfl (by show (if 120 = 0 then none else some (_, _)) = _; rw [if_neg (by decide)]) ?_
    refine e_getIx (show decode (mC 9) 75 = .ok (.getfield 29, 3) by decide +kernel) (show pl 1 29 = some (0, 1, 2, 0) by decide +kernel) (by decide) (sh_ok hG (by decide +kernel)) ex1 ?_
    refine e_P (st' := [aI 30, aI x1]) (show decode (mC 9) 78 = .ok (.bipush 30, 2) by decide +kernel) rfl rfl rfl ?_
    refine e_lt2 (t := 92) (show decode (mC 9) 80 = .ok (.if_icmp .lt 12, 3) by decide +kernel) (by decide) (s3 p1) (by decide) (fun p2 => ?_) (fun p2 => ?_)
    · refine e_L (L' := [some (aR 120), some (aI 8), some (aI (-1)), none]) (st' := [aR 120]) (show decode (mC 9) 92 = .ok (.aload_n 0, 1) by decide +kernel) rfl (by show (if 120 = 0 then none else some (_, _)) = _; rw [if_neg (by decide)]) ?_
      refine e_getR (w := 2) (show decode (mC 9) 93 = .ok (.getfield 21, 3) by decide +kernel) (show pl 1 21 = some (0, 1, 0, 0) by decide +kernel) (by decide) (sh_ok hG (by decide +kernel)) (sh_rf hG (by decide +kernel)) ?_
      exact e_V (as := [aR 2]) (rest := []) (show decode (mC 9) 96 = .ok (.invokevirtual 73, 3) by decide +kernel) (by decide +kernel) (show (decide ((1 : Nat) = mA 98) && decide (98 < q_law)) = true by decide +kernel) rfl (show (0 : Nat) ≤ 8 by decide) (show (1 : Nat) ≤ mL 98 by decide +kernel) rfl (sh_ok hG (by decide +kernel)) (m4 p1 p2)
    · refine e_L (L' := [some (aR 120), some (aI 8), some (aI (-1)), none]) (st' := [aR 120]) (show decode (mC 9) 83 = .ok (.aload_n 0, 1) by decide +kernel) rfl (by show (if 120 = 0 then none else some (_, _)) = _; rw [if_neg (by decide)]) ?_
      refine e_getR (w := 2) (show decode (mC 9) 84 = .ok (.getfield 21, 3) by decide +kernel) (show pl 1 21 = some (0, 1, 0, 0) by decide +kernel) (by decide) (sh_ok hG (by decide +kernel)) (sh_rf hG (by decide +kernel)) ?_
      refine e_P (st' := [aI 4, aR 2]) (show decode (mC 9) 87 = .ok (.iconst 4, 1) by decide +kernel) rfl rfl rfl ?_
      exact e_V (as := [aR 2, aI 4]) (rest := []) (show decode (mC 9) 88 = .ok (.invokevirtual 70, 3) by decide +kernel) (by decide +kernel) (show (decide ((2 : Nat) = mA 99) && decide (99 < q_law)) = true by decide +kernel) rfl (show (0 : Nat) ≤ 8 by decide) (show (2 : Nat) ≤ mL 99 by decide +kernel) rfl (sh_ok hG (by decide +kernel)) (tm_le hQ (leN (leN (leN (leS leE)))) (m5 p1 p2))
/-- SoulOffice$Book.readLine()Z, from 26 -/
theorem b9_26 (hG : Shp G) {u0 x1 x2 : Int} (hQ : ∀ o o' h', q_eqo o o' → Q o h' → Q o' h')
    (s0 : -2147483648 ≤ u0 ∧ u0 < 2147483648)
    (ex1 : c 9 1 = x1)
    (m2 : (u0 = 0) → TM d 106 [aR 2, aR 11, aI x1] (G, c) (fun r h' => T (d + 1) 9 66 [some (aR 120), some (aI 7), none, none] (r.toList ++ []) h' Q))
    (ex2 : c 120 2 = x2)
    (s4 : (¬ u0 = 0) → -2147483648 ≤ x2 ∧ x2 < 2147483648)
    (m5 : (¬ u0 = 0) → (x2 < 30) → TM d 98 [aR 2] (G, c) (fun r h' => T (d + 1) 9 99 [some (aR 120), some (aI 9), some (aI (-1)), none] (r.toList ++ []) h' Q))
    (m6 : (¬ u0 = 0) → (30 ≤ x2) → TM d 99 [aR 2, aI 4] (G, c) (fun r h' => T (d + 1) 9 91 [none, none, none, none] (r.toList ++ []) h' Q)) :
    T (d + 1) 9 26 [some (aR 120), none, none, none] [aI u0] (G, c) Q := by
  refine e_eq1 (t := 34) (show decode (mC 9) 26 = .ok (.ifCond .eq 8, 3) by decide +kernel) (by decide) s0 (fun p1 => ?_) (fun p1 => ?_)
  · refine e_P (st' := [aI 7]) (show decode (mC 9) 34 = .ok (.bipush 7, 2) by decide +kernel) rfl rfl rfl ?_
    refine e_L (L' := [some (aR 120), some (aI 7), none, none]) (st' := []) (show decode (mC 9) 36 = .ok (.istore_n 1, 1) by decide +kernel) rfl rfl ?_
    refine e_P (st' := [aI (-1)]) (show decode (mC 9) 37 = .ok (.iconst (-1), 1) by decide +kernel) rfl rfl rfl ?_
    refine e_L (L' := [some (aR 120), some (aI 7), some (aI (-1)), none]) (st' := []) (show decode (mC 9) 38 = .ok (.istore_n 2, 1) by decide +kernel) rfl rfl ?_
    refine e_L (L' := [some (aR 120), some (aI 7), some (aI (-1)), none]) (st' := [aI 7]) (show decode (mC 9) 39 = .ok (.iload_n 1, 1) by decide +kernel) rfl rfl ?_
    refine e_P (st' := [aI 7, aI 7]) (show decode (mC 9) 40 = .ok (.bipush 7, 2) by decide +kernel) rfl rfl rfl ?_
    refine e_ne2 (t := 74) (show decode (mC 9) 42 = .ok (.if_icmp .ne 32, 3) by decide +kernel) (by decide) (by decide) (by decide) (fun h => absurd h (by decide)) (fun _ => ?_)
    refine e_L (L' := [some (aR 120), some (aI 7), some (aI (-1)), none]) (st' := [aR 120]) (show decode (mC 9) 45 = .ok (.aload_n 0, 1) by decide +kernel) rfl (by show (if 120 = 0 then none else some (_, _)) = _; rw [if_neg (by decide)]) ?_
    refine e_getR (w := 2) (show decode (mC 9) 46 = .ok (.getfield 21, 3) by decide +kernel) (show pl 1 21 = some (0, 1, 0, 0) by decide +kernel) (by decide) (sh_ok hG (by decide +kernel)) (sh_rf hG (by decide +kernel)) ?_
    refine e_L (L' := [some (aR 120), some (aI 7), some (aI (-1)), none]) (st' := [aR 120, aR 2]) (show decode (mC 9) 49 = .ok (.aload_n 0, 1) by decide +kernel) rfl (by show (if 120 = 0 then none else some (_, _)) = _; rw [if_neg (by decide)]) ?_
    refine e_getR (w := 9) (show decode (mC 9) 50 = .ok (.getfield 25, 3) by decide +kernel) (show pl 1 25 = some (0, 1, 1, 0) by decide +kernel) (by decide) (sh_ok hG (by decide +kernel)) (sh_rf hG (by decide +kernel)) ?_
    refine e_getR (w := 11) (show decode (mC 9) 53 = .ok (.getfield 57, 3) by decide +kernel) (show pl 1 57 = some (0, 8, 4, 0) by decide +kernel) (by decide) (sh_ok hG (by decide +kernel)) (sh_rf hG (by decide +kernel)) ?_
    refine e_L (L' := [some (aR 120), some (aI 7), some (aI (-1)), none]) (st' := [aR 120, aR 11, aR 2]) (show decode (mC 9) 56 = .ok (.aload_n 0, 1) by decide +kernel) rfl (by show (if 120 = 0 then none else some (_, _)) = _; rw [if_neg (by decide)]) ?_
    refine e_getR (w := 9) (show decode (mC 9) 57 = .ok (.getfield 25, 3) by decide +kernel) (show pl 1 25 = some (0, 1, 1, 0) by decide +kernel) (by decide) (sh_ok hG (by decide +kernel)) (sh_rf hG (by decide +kernel)) ?_
    refine e_getIx (show decode (mC 9) 60 = .ok (.getfield 63, 3) by decide +kernel) (show pl 1 63 = some (0, 8, 1, 0) by decide +kernel) (by decide) (sh_ok hG (by decide +kernel)) ex1 ?_
    exact e_V (as := [aR 2, aR 11, aI x1]) (rest := []) (show decode (mC 9) 63 = .ok (.invokevirtual 66, 3) by decide +kernel) (by decide +kernel) (show (decide ((3 : Nat) = mA 106) && decide (106 < q_law)) = true by decide +kernel) rfl (show (0 : Nat) ≤ 8 by decide) (show (3 : Nat) ≤ mL 106 by decide +kernel) rfl (sh_ok hG (by decide +kernel)) (tm_le hQ (leS (leS (leN (leS leE)))) (m2 p1))
  · refine e_P (st' := [aI 9]) (show decode (mC 9) 29 = .ok (.bipush 9, 2) by decide +kernel) rfl rfl rfl ?_
    refine e_go (t := 36) (show decode (mC 9) 31 = .ok (.goto 5, 3) by decide +kernel) (by decide) ?_
    refine e_L (L' := [some (aR 120), some (aI 9), none, none]) (st' := []) (show decode (mC 9) 36 = .ok (.istore_n 1, 1) by decide +kernel) rfl rfl ?_
    refine e_P (st' := [aI (-1)]) (show decode (mC 9) 37 = .ok (.iconst (-1), 1) by decide +kernel) rfl rfl rfl ?_
    refine e_L (L' := [some (aR 120), some (aI 9), some (aI (-1)), none]) (st' := []) (show decode (mC 9) 38 = .ok (.istore_n 2, 1) by decide +kernel) rfl rfl ?_
    refine e_L (L' := [some (aR 120), some (aI 9), some (aI (-1)), none]) (st' := [aI 9]) (show decode (mC 9) 39 = .ok (.iload_n 1, 1) by decide +kernel) rfl rfl ?_
    refine e_P (st' := [aI 7, aI 9]) (show decode (mC 9) 40 = .ok (.bipush 7, 2) by decide +kernel) rfl rfl rfl ?_
    refine e_ne2 (t := 74) (show decode (mC 9) 42 = .ok (.if_icmp .ne 32, 3) by decide +kernel) (by decide) (by decide) (by decide) (fun _ => ?_) (fun h => absurd h (by decide))
    refine e_L (L' := [some (aR 120), some (aI 9), some (aI (-1)), none]) (st' := [aR 120]) (show decode (mC 9) 74 = .ok (.aload_n 0, 1) by decide +kernel) rfl (by show (if 120 = 0 then none else some (_, _)) = _; rw [if_neg (by decide)]) ?_
    refine e_getIx (show decode (mC 9) 75 = .ok (.getfield 29, 3) by decide +kernel) (show pl 1 29 = some (0, 1, 2, 0) by decide +kernel) (by decide) (sh_ok hG (by decide +kernel)) ex2 ?_
    refine e_P (st' := [aI 30, aI x2]) (show decode (mC 9) 78 = .ok (.bipush 30, 2) by decide +kernel) rfl rfl rfl ?_
    refine e_lt2 (t := 92) (show decode (mC 9) 80 = .ok (.if_icmp .lt 12, 3) by decide +kernel) (by decide) (s4 p1) (by decide) (fun p2 => ?_) (fun p2 => ?_)
    · refine e_L (L' := [some (aR 120), some (aI 9), some (aI (-1)), none]) (st' := [aR 120]) (show decode (mC 9) 92 = .ok (.aload_n 0, 1) by decide +kernel) rfl (by show (if 120 = 0 then none else some (_, _)) = _; rw [if_neg (by decide)]) ?_
      refine e_getR (w := 2) (show decode (mC 9) 93 = .ok (.getfield 21, 3) by decide +kernel) (show pl 1 21 = some (0, 1, 0, 0) by decide +kernel) (by decide) (sh_ok hG (by decide +kernel)) (sh_rf hG (by decide +kernel)) ?_
      exact e_V (as := [aR 2]) (rest := []) (show decode (mC 9) 96 = .ok (.invokevirtual 73, 3) by decide +kernel) (by decide +kernel) (show (decide ((1 : Nat) = mA 98) && decide (98 < q_law)) = true by decide +kernel) rfl (show (0 : Nat) ≤ 8 by decide) (show (1 : Nat) ≤ mL 98 by decide +kernel) rfl (sh_ok hG (by decide +kernel)) (m5 p1 p2)
    · refine e_L (L' := [some (aR 120), some (aI 9), some (aI (-1)), none]) (st' := [aR 120]) (show decode (mC 9) 83 = .ok (.aload_n 0, 1) by decide +kernel) rfl (by show (if 120 = 0 then none else some (_, _)) = _; rw [if_neg (by decide)]) ?_
      refine e_getR (w := 2) (show decode (mC 9) 84 = .ok (.getfield 21, 3) by decide +kernel) (show pl 1 21 = some (0, 1, 0, 0) by decide +kernel) (by decide) (sh_ok hG (by decide +kernel)) (sh_rf hG (by decide +kernel)) ?_
      refine e_P (st' := [aI 4, aR 2]) (show decode (mC 9) 87 = .ok (.iconst 4, 1) by decide +kernel) rfl rfl rfl ?_
      exact e_V (as := [aR 2, aI 4]) (rest := []) (show decode (mC 9) 88 = .ok (.invokevirtual 70, 3) by decide +kernel) (by decide +kernel) (show (decide ((2 : Nat) = mA 99) && decide (99 < q_law)) = true by decide +kernel) rfl (show (0 : Nat) ≤ 8 by decide) (show (2 : Nat) ≤ mL 99 by decide +kernel) rfl (sh_ok hG (by decide +kernel)) (tm_le hQ (leN (leN (leN (leS leE)))) (m6 p1 p2))
/-- SoulOffice$Book.readLine()Z, from 66 -/
theorem b9_66 (hG : Shp G) {v1 u0 x1 : Int} (hQ : ∀ o o' h', q_eqo o o' → Q o h' → Q o' h')
    (s0 : -2147483648 ≤ u0 ∧ u0 < 2147483648)
    (ex1 : c 120 2 = x1)
    (s2 : (¬ u0 = (-1)) → -2147483648 ≤ x1 ∧ x1 < 2147483648)
    (m3 : (¬ u0 = (-1)) → (x1 < 30) → TM d 98 [aR 2] (G, c) (fun r h' => T (d + 1) 9 99 [some (aR 120), some (aI v1), some (aI u0), none] (r.toList ++ []) h' Q))
    (m4 : (¬ u0 = (-1)) → (30 ≤ x1) → TM d 99 [aR 2, aI 4] (G, c) (fun r h' => T (d + 1) 9 91 [none, none, none, none] (r.toList ++ []) h' Q))
    (z5 : (u0 = (-1)) → Q (.inl (some (aI 0))) (G, c)) :
    T (d + 1) 9 66 [some (aR 120), some (aI v1), none, none] [aI u0] (G, c) Q := by
  refine e_L (L' := [some (aR 120), some (aI v1), some (aI u0), none]) (st' := []) (show decode (mC 9) 66 = .ok (.istore_n 2, 1) by decide +kernel) rfl rfl ?_
  refine e_L (L' := [some (aR 120), some (aI v1), some (aI u0), none]) (st' := [aI u0]) (show decode (mC 9) 67 = .ok (.iload_n 2, 1) by decide +kernel) rfl rfl ?_
  refine e_P (st' := [aI (-1), aI u0]) (show decode (mC 9) 68 = .ok (.iconst (-1), 1) by decide +kernel) rfl rfl rfl ?_
  refine e_ne2 (t := 74) (show decode (mC 9) 69 = .ok (.if_icmp .ne 5, 3) by decide +kernel) (by decide) s0 (by decide) (fun p1 => ?_) (fun p1 => ?_)
  · refine e_L (L' := [some (aR 120), some (aI v1), some (aI u0), none]) (st' := [aR 120]) (show decode (mC 9) 74 = .ok (.aload_n 0, 1) by decide +kernel) rfl (by show (if 120 = 0 then none else some (_, _)) = _; rw [if_neg (by decide)]) ?_
    refine e_getIx (show decode (mC 9) 75 = .ok (.getfield 29, 3) by decide +kernel) (show pl 1 29 = some (0, 1, 2, 0) by decide +kernel) (by decide) (sh_ok hG (by decide +kernel)) ex1 ?_
    refine e_P (st' := [aI 30, aI x1]) (show decode (mC 9) 78 = .ok (.bipush 30, 2) by decide +kernel) rfl rfl rfl ?_
    refine e_lt2 (t := 92) (show decode (mC 9) 80 = .ok (.if_icmp .lt 12, 3) by decide +kernel) (by decide) (s2 p1) (by decide) (fun p2 => ?_) (fun p2 => ?_)
    · refine e_L (L' := [some (aR 120), some (aI v1), some (aI u0), none]) (st' := [aR 120]) (show decode (mC 9) 92 = .ok (.aload_n 0, 1) by decide +kernel) rfl (by show (if 120 = 0 then none else some (_, _)) = _; rw [if_neg (by decide)]) ?_
      refine e_getR (w := 2) (show decode (mC 9) 93 = .ok (.getfield 21, 3) by decide +kernel) (show pl 1 21 = some (0, 1, 0, 0) by decide +kernel) (by decide) (sh_ok hG (by decide +kernel)) (sh_rf hG (by decide +kernel)) ?_
      exact e_V (as := [aR 2]) (rest := []) (show decode (mC 9) 96 = .ok (.invokevirtual 73, 3) by decide +kernel) (by decide +kernel) (show (decide ((1 : Nat) = mA 98) && decide (98 < q_law)) = true by decide +kernel) rfl (show (0 : Nat) ≤ 8 by decide) (show (1 : Nat) ≤ mL 98 by decide +kernel) rfl (sh_ok hG (by decide +kernel)) (m3 p1 p2)
    · refine e_L (L' := [some (aR 120), some (aI v1), some (aI u0), none]) (st' := [aR 120]) (show decode (mC 9) 83 = .ok (.aload_n 0, 1) by decide +kernel) rfl (by show (if 120 = 0 then none else some (_, _)) = _; rw [if_neg (by decide)]) ?_
      refine e_getR (w := 2) (show decode (mC 9) 84 = .ok (.getfield 21, 3) by decide +kernel) (show pl 1 21 = some (0, 1, 0, 0) by decide +kernel) (by decide) (sh_ok hG (by decide +kernel)) (sh_rf hG (by decide +kernel)) ?_
      refine e_P (st' := [aI 4, aR 2]) (show decode (mC 9) 87 = .ok (.iconst 4, 1) by decide +kernel) rfl rfl rfl ?_
      exact e_V (as := [aR 2, aI 4]) (rest := []) (show decode (mC 9) 88 = .ok (.invokevirtual 70, 3) by decide +kernel) (by decide +kernel) (show (decide ((2 : Nat) = mA 99) && decide (99 < q_law)) = true by decide +kernel) rfl (show (0 : Nat) ≤ 8 by decide) (show (2 : Nat) ≤ mL 99 by decide +kernel) rfl (sh_ok hG (by decide +kernel)) (tm_le hQ (leN (leN (leN (leS leE)))) (m4 p1 p2))
  · refine e_P (st' := [aI 0]) (show decode (mC 9) 72 = .ok (.iconst 0, 1) by decide +kernel) rfl rfl rfl ?_
    exact e_zret (show decode (mC 9) 73 = .ok (.ireturn, 1) by decide +kernel) rfl (by decide) (z5 p1)
/-- SoulOffice$Book.readLine()Z, from 91 -/
theorem b9_91 (hG : Shp G) {u0 : Int}
    (s0 : u0 = 0 ∨ u0 = 1)
    (z1 : Q (.inl (some (aI u0))) (G, c)) :
    T (d + 1) 9 91 [none, none, none, none] [aI u0] (G, c) Q := by
  exact e_zret (show decode (mC 9) 91 = .ok (.ireturn, 1) by decide +kernel) rfl s0 z1
/-- SoulOffice$Book.readLine()Z, from 99 -/
theorem b9_99 (hG : Shp G) {v1 v2 x1 : Int}
    (s0 : -2147483648 ≤ v1 ∧ v1 < 2147483648)
    (m1 : (¬ v1 = 7) → (¬ v1 = 7) → TM d 105 [aR 2, aI 1, aI 60] (G, c) (fun r h' => T (d + 1) 9 159 [some (aR 120), some (aI v1), some (aI v2), none] (r.toList ++ []) h' Q))
    (ex1 : c 9 0 = x1)
    (m3 : (¬ v1 = 7) → (v1 = 7) → TM d 107 [aR 2, aR 10, aI x1] (G, c) (fun r h' => T (d + 1) 9 146 [some (aR 120), some (aI v1), some (aI v2), none] (r.toList ++ []) h' Q))
    (m4 : (v1 = 7) → TM d 104 [aR 2, aI 7] (G, c) (fun r h' => T (d + 1) 9 114 [some (aR 120), some (aI v1), some (aI v2), none] (r.toList ++ []) h' Q)) :
    T (d + 1) 9 99 [some (aR 120), some (aI v1), some (aI v2), none] [] (G, c) Q := by
  refine e_L (L' := [some (aR 120), some (aI v1), some (aI v2), none]) (st' := [aI v1]) (show decode (mC 9) 99 = .ok (.iload_n 1, 1) by decide +kernel) rfl rfl ?_
  refine e_P (st' := [aI 7, aI v1]) (show decode (mC 9) 100 = .ok (.bipush 7, 2) by decide +kernel) rfl rfl rfl ?_
  refine e_ne2 (t := 119) (show decode (mC 9) 102 = .ok (.if_icmp .ne 17, 3) by decide +kernel) (by decide) s0 (by decide) (fun p1 => ?_) (fun p1 => ?_)
  · refine e_L (L' := [some (aR 120), some (aI v1), some (aI v2), none]) (st' := [aI v1]) (show decode (mC 9) 119 = .ok (.iload_n 1, 1) by decide +kernel) rfl rfl ?_
    refine e_P (st' := [aI 7, aI v1]) (show decode (mC 9) 120 = .ok (.bipush 7, 2) by decide +kernel) rfl rfl rfl ?_
    refine e_ne2 (t := 149) (show decode (mC 9) 122 = .ok (.if_icmp .ne 27, 3) by decide +kernel) (by decide) s0 (by decide) (fun p2 => ?_) (fun p2 => ?_)
    · refine e_L (L' := [some (aR 120), some (aI v1), some (aI v2), none]) (st' := [aR 120]) (show decode (mC 9) 149 = .ok (.aload_n 0, 1) by decide +kernel) rfl (by show (if 120 = 0 then none else some (_, _)) = _; rw [if_neg (by decide)]) ?_
      refine e_getR (w := 2) (show decode (mC 9) 150 = .ok (.getfield 21, 3) by decide +kernel) (show pl 1 21 = some (0, 1, 0, 0) by decide +kernel) (by decide) (sh_ok hG (by decide +kernel)) (sh_rf hG (by decide +kernel)) ?_
      refine e_P (st' := [aI 1, aR 2]) (show decode (mC 9) 153 = .ok (.iconst 1, 1) by decide +kernel) rfl rfl rfl ?_
      refine e_P (st' := [aI 60, aI 1, aR 2]) (show decode (mC 9) 154 = .ok (.bipush 60, 2) by decide +kernel) rfl rfl rfl ?_
      exact e_V (as := [aR 2, aI 1, aI 60]) (rest := []) (show decode (mC 9) 156 = .ok (.invokevirtual 88, 3) by decide +kernel) (by decide +kernel) (show (decide ((3 : Nat) = mA 105) && decide (105 < q_law)) = true by decide +kernel) rfl (show (0 : Nat) ≤ 8 by decide) (show (3 : Nat) ≤ mL 105 by decide +kernel) rfl (sh_ok hG (by decide +kernel)) (m1 p1 p2)
    · refine e_L (L' := [some (aR 120), some (aI v1), some (aI v2), none]) (st' := [aR 120]) (show decode (mC 9) 125 = .ok (.aload_n 0, 1) by decide +kernel) rfl (by show (if 120 = 0 then none else some (_, _)) = _; rw [if_neg (by decide)]) ?_
      refine e_getR (w := 2) (show decode (mC 9) 126 = .ok (.getfield 21, 3) by decide +kernel) (show pl 1 21 = some (0, 1, 0, 0) by decide +kernel) (by decide) (sh_ok hG (by decide +kernel)) (sh_rf hG (by decide +kernel)) ?_
      refine e_L (L' := [some (aR 120), some (aI v1), some (aI v2), none]) (st' := [aR 120, aR 2]) (show decode (mC 9) 129 = .ok (.aload_n 0, 1) by decide +kernel) rfl (by show (if 120 = 0 then none else some (_, _)) = _; rw [if_neg (by decide)]) ?_
      refine e_getR (w := 9) (show decode (mC 9) 130 = .ok (.getfield 25, 3) by decide +kernel) (show pl 1 25 = some (0, 1, 1, 0) by decide +kernel) (by decide) (sh_ok hG (by decide +kernel)) (sh_rf hG (by decide +kernel)) ?_
      refine e_getR (w := 10) (show decode (mC 9) 133 = .ok (.getfield 79, 3) by decide +kernel) (show pl 1 79 = some (0, 8, 3, 0) by decide +kernel) (by decide) (sh_ok hG (by decide +kernel)) (sh_rf hG (by decide +kernel)) ?_
      refine e_L (L' := [some (aR 120), some (aI v1), some (aI v2), none]) (st' := [aR 120, aR 10, aR 2]) (show decode (mC 9) 136 = .ok (.aload_n 0, 1) by decide +kernel) rfl (by show (if 120 = 0 then none else some (_, _)) = _; rw [if_neg (by decide)]) ?_
      refine e_getR (w := 9) (show decode (mC 9) 137 = .ok (.getfield 25, 3) by decide +kernel) (show pl 1 25 = some (0, 1, 1, 0) by decide +kernel) (by decide) (sh_ok hG (by decide +kernel)) (sh_rf hG (by decide +kernel)) ?_
      refine e_getIx (show decode (mC 9) 140 = .ok (.getfield 82, 3) by decide +kernel) (show pl 1 82 = some (0, 8, 0, 0) by decide +kernel) (by decide) (sh_ok hG (by decide +kernel)) ex1 ?_
      exact e_V (as := [aR 2, aR 10, aI x1]) (rest := []) (show decode (mC 9) 143 = .ok (.invokevirtual 85, 3) by decide +kernel) (by decide +kernel) (show (decide ((3 : Nat) = mA 107) && decide (107 < q_law)) = true by decide +kernel) rfl (show (0 : Nat) ≤ 8 by decide) (show (3 : Nat) ≤ mL 107 by decide +kernel) rfl (sh_ok hG (by decide +kernel)) (m3 p1 p2)
  · refine e_L (L' := [some (aR 120), some (aI v1), some (aI v2), none]) (st' := [aR 120]) (show decode (mC 9) 105 = .ok (.aload_n 0, 1) by decide +kernel) rfl (by show (if 120 = 0 then none else some (_, _)) = _; rw [if_neg (by decide)]) ?_
    refine e_getR (w := 2) (show decode (mC 9) 106 = .ok (.getfield 21, 3) by decide +kernel) (show pl 1 21 = some (0, 1, 0, 0) by decide +kernel) (by decide) (sh_ok hG (by decide +kernel)) (sh_rf hG (by decide +kernel)) ?_
    refine e_P (st' := [aI 7, aR 2]) (show decode (mC 9) 109 = .ok (.bipush 7, 2) by decide +kernel) rfl rfl rfl ?_
    exact e_V (as := [aR 2, aI 7]) (rest := []) (show decode (mC 9) 111 = .ok (.invokevirtual 76, 3) by decide +kernel) (by decide +kernel) (show (decide ((2 : Nat) = mA 104) && decide (104 < q_law)) = true by decide +kernel) rfl (show (0 : Nat) ≤ 8 by decide) (show (2 : Nat) ≤ mL 104 by decide +kernel) rfl (sh_ok hG (by decide +kernel)) (m4 p1)
/-- SoulOffice$Book.readLine()Z, from 114 -/
theorem b9_114 (hG : Shp G) {v1 v2 u0 x1 : Int}
    (s0 : -2147483648 ≤ u0 ∧ u0 < 2147483648)
    (s1 : (¬ u0 = 0) → -2147483648 ≤ v1 ∧ v1 < 2147483648)
    (m2 : (¬ u0 = 0) → (¬ v1 = 7) → TM d 105 [aR 2, aI 1, aI 60] (G, c) (fun r h' => T (d + 1) 9 159 [some (aR 120), some (aI v1), some (aI v2), none] (r.toList ++ []) h' Q))
    (ex1 : c 9 0 = x1)
    (m4 : (¬ u0 = 0) → (v1 = 7) → TM d 107 [aR 2, aR 10, aI x1] (G, c) (fun r h' => T (d + 1) 9 146 [some (aR 120), some (aI v1), some (aI v2), none] (r.toList ++ []) h' Q))
    (z5 : (u0 = 0) → Q (.inl (some (aI 0))) (G, c)) :
    T (d + 1) 9 114 [some (aR 120), some (aI v1), some (aI v2), none] [aI u0] (G, c) Q := by
  refine e_ne1 (t := 119) (show decode (mC 9) 114 = .ok (.ifCond .ne 5, 3) by decide +kernel) (by decide) s0 (fun p1 => ?_) (fun p1 => ?_)
  · refine e_L (L' := [some (aR 120), some (aI v1), some (aI v2), none]) (st' := [aI v1]) (show decode (mC 9) 119 = .ok (.iload_n 1, 1) by decide +kernel) rfl rfl ?_
    refine e_P (st' := [aI 7, aI v1]) (show decode (mC 9) 120 = .ok (.bipush 7, 2) by decide +kernel) rfl rfl rfl ?_
    refine e_ne2 (t := 149) (show decode (mC 9) 122 = .ok (.if_icmp .ne 27, 3) by decide +kernel) (by decide) (s1 p1) (by decide) (fun p2 => ?_) (fun p2 => ?_)
    · refine e_L (L' := [some (aR 120), some (aI v1), some (aI v2), none]) (st' := [aR 120]) (show decode (mC 9) 149 = .ok (.aload_n 0, 1) by decide +kernel) rfl (by show (if 120 = 0 then none else some (_, _)) = _; rw [if_neg (by decide)]) ?_
      refine e_getR (w := 2) (show decode (mC 9) 150 = .ok (.getfield 21, 3) by decide +kernel) (show pl 1 21 = some (0, 1, 0, 0) by decide +kernel) (by decide) (sh_ok hG (by decide +kernel)) (sh_rf hG (by decide +kernel)) ?_
      refine e_P (st' := [aI 1, aR 2]) (show decode (mC 9) 153 = .ok (.iconst 1, 1) by decide +kernel) rfl rfl rfl ?_
      refine e_P (st' := [aI 60, aI 1, aR 2]) (show decode (mC 9) 154 = .ok (.bipush 60, 2) by decide +kernel) rfl rfl rfl ?_
      exact e_V (as := [aR 2, aI 1, aI 60]) (rest := []) (show decode (mC 9) 156 = .ok (.invokevirtual 88, 3) by decide +kernel) (by decide +kernel) (show (decide ((3 : Nat) = mA 105) && decide (105 < q_law)) = true by decide +kernel) rfl (show (0 : Nat) ≤ 8 by decide) (show (3 : Nat) ≤ mL 105 by decide +kernel) rfl (sh_ok hG (by decide +kernel)) (m2 p1 p2)
    · refine e_L (L' := [some (aR 120), some (aI v1), some (aI v2), none]) (st' := [aR 120]) (show decode (mC 9) 125 = .ok (.aload_n 0, 1) by decide +kernel) rfl (by show (if 120 = 0 then none else some (_, _)) = _; rw [if_neg (by decide)]) ?_
      refine e_getR (w := 2) (show decode (mC 9) 126 = .ok (.getfield 21, 3) by decide +kernel) (show pl 1 21 = some (0, 1, 0, 0) by decide +kernel) (by decide) (sh_ok hG (by decide +kernel)) (sh_rf hG (by decide +kernel)) ?_
      refine e_L (L' := [some (aR 120), some (aI v1), some (aI v2), none]) (st' := [aR 120, aR 2]) (show decode (mC 9) 129 = .ok (.aload_n 0, 1) by decide +kernel) rfl (by show (if 120 = 0 then none else some (_, _)) = _; rw [if_neg (by decide)]) ?_
      refine e_getR (w := 9) (show decode (mC 9) 130 = .ok (.getfield 25, 3) by decide +kernel) (show pl 1 25 = some (0, 1, 1, 0) by decide +kernel) (by decide) (sh_ok hG (by decide +kernel)) (sh_rf hG (by decide +kernel)) ?_
      refine e_getR (w := 10) (show decode (mC 9) 133 = .ok (.getfield 79, 3) by decide +kernel) (show pl 1 79 = some (0, 8, 3, 0) by decide +kernel) (by decide) (sh_ok hG (by decide +kernel)) (sh_rf hG (by decide +kernel)) ?_
      refine e_L (L' := [some (aR 120), some (aI v1), some (aI v2), none]) (st' := [aR 120, aR 10, aR 2]) (show decode (mC 9) 136 = .ok (.aload_n 0, 1) by decide +kernel) rfl (by show (if 120 = 0 then none else some (_, _)) = _; rw [if_neg (by decide)]) ?_
      refine e_getR (w := 9) (show decode (mC 9) 137 = .ok (.getfield 25, 3) by decide +kernel) (show pl 1 25 = some (0, 1, 1, 0) by decide +kernel) (by decide) (sh_ok hG (by decide +kernel)) (sh_rf hG (by decide +kernel)) ?_
      refine e_getIx (show decode (mC 9) 140 = .ok (.getfield 82, 3) by decide +kernel) (show pl 1 82 = some (0, 8, 0, 0) by decide +kernel) (by decide) (sh_ok hG (by decide +kernel)) ex1 ?_
      exact e_V (as := [aR 2, aR 10, aI x1]) (rest := []) (show decode (mC 9) 143 = .ok (.invokevirtual 85, 3) by decide +kernel) (by decide +kernel) (show (decide ((3 : Nat) = mA 107) && decide (107 < q_law)) = true by decide +kernel) rfl (show (0 : Nat) ≤ 8 by decide) (show (3 : Nat) ≤ mL 107 by decide +kernel) rfl (sh_ok hG (by decide +kernel)) (m4 p1 p2)
  · refine e_P (st' := [aI 0]) (show decode (mC 9) 117 = .ok (.iconst 0, 1) by decide +kernel) rfl rfl rfl ?_
    exact e_zret (show decode (mC 9) 118 = .ok (.ireturn, 1) by decide +kernel) rfl (by decide) (z5 p1)
/-- SoulOffice$Book.readLine()Z, from 146 -/
theorem b9_146 (hG : Shp G) {v1 v2 u0 : Int}
    (k0 : T (d + 1) 9 159 [some (aR 120), some (aI v1), some (aI v2), none] [aI u0] (G, c) Q) :
    T (d + 1) 9 146 [some (aR 120), some (aI v1), some (aI v2), none] [aI u0] (G, c) Q := by
  refine e_go (t := 159) (show decode (mC 9) 146 = .ok (.goto 13, 3) by decide +kernel) (by decide) ?_
  exact k0
/-- SoulOffice$Book.readLine()Z, from 159 -/
theorem b9_159 (hG : Shp G) {v1 v2 u0 x1 x2 x3 x4 : Int}
    (s0 : -2147483648 ≤ u0 ∧ u0 < 2147483648)
    (ex1 : c 120 2 = x1)
    (s2 : (¬ u0 = (-1)) → 0 ≤ x1)
    (s3 : (¬ u0 = (-1)) → x1 < 30)
    (ex2 : (q_up c 121 x1 v1) 120 2 = x2)
    (s5 : (¬ u0 = (-1)) → 0 ≤ x2)
    (s6 : (¬ u0 = (-1)) → x2 < 30)
    (ex3 : (q_up (q_up c 121 x1 v1) 122 x2 v2) 120 2 = x3)
    (s8 : (¬ u0 = (-1)) → 0 ≤ x3)
    (s9 : (¬ u0 = (-1)) → x3 < 30)
    (ex4 : (q_up (q_up (q_up c 121 x1 v1) 122 x2 v2) 123 x3 u0) 120 2 = x4)
    (z11 : (¬ u0 = (-1)) → Q (.inl (some (aI 1))) (G, (q_up (q_up (q_up (q_up c 121 x1 v1) 122 x2 v2) 123 x3 u0) 120 2 (x4 + 1))))
    (z12 : (u0 = (-1)) → Q (.inl (some (aI 0))) (G, c)) :
    T (d + 1) 9 159 [some (aR 120), some (aI v1), some (aI v2), none] [aI u0] (G, c) Q := by
  refine e_L (L' := [some (aR 120), some (aI v1), some (aI v2), some (aI u0)]) (st' := []) (show decode (mC 9) 159 = .ok (.istore_n 3, 1) by decide +kernel) rfl rfl ?_
  refine e_L (L' := [some (aR 120), some (aI v1), some (aI v2), some (aI u0)]) (st' := [aI u0]) (show decode (mC 9) 160 = .ok (.iload_n 3, 1) by decide +kernel) rfl rfl ?_
  refine e_P (st' := [aI (-1), aI u0]) (show decode (mC 9) 161 = .ok (.iconst (-1), 1) by decide +kernel) rfl rfl rfl ?_
  refine e_ne2 (t := 167) (show decode (mC 9) 162 = .ok (.if_icmp .ne 5, 3) by decide +kernel) (by decide) s0 (by decide) (fun p1 => ?_) (fun p1 => ?_)
  · refine e_L (L' := [some (aR 120), some (aI v1), some (aI v2), some (aI u0)]) (st' := [aR 120]) (show decode (mC 9) 167 = .ok (.aload_n 0, 1) by decide +kernel) rfl (by show (if 120 = 0 then none else some (_, _)) = _; rw [if_neg (by decide)]) ?_
    refine e_getR (w := 121) (show decode (mC 9) 168 = .ok (.getfield 9, 3) by decide +kernel) (show pl 1 9 = some (0, 1, 3, 0) by decide +kernel) (by decide) (sh_ok hG (by decide +kernel)) (sh_rf hG (by decide +kernel)) ?_
    refine e_L (L' := [some (aR 120), some (aI v1), some (aI v2), some (aI u0)]) (st' := [aR 120, aR 121]) (show decode (mC 9) 171 = .ok (.aload_n 0, 1) by decide +kernel) rfl (by show (if 120 = 0 then none else some (_, _)) = _; rw [if_neg (by decide)]) ?_
    refine e_getIx (show decode (mC 9) 172 = .ok (.getfield 29, 3) by decide +kernel) (show pl 1 29 = some (0, 1, 2, 0) by decide +kernel) (by decide) (sh_ok hG (by decide +kernel)) ex1 ?_
    refine e_L (L' := [some (aR 120), some (aI v1), some (aI v2), some (aI u0)]) (st' := [aI v1, aI x1, aR 121]) (show decode (mC 9) 175 = .ok (.iload_n 1, 1) by decide +kernel) rfl rfl ?_
    refine e_iast (n := 30) (show decode (mC 9) 176 = .ok (.iastore, 1) by decide +kernel) (sh_ok hG (by decide +kernel)) (sh_ln hG (by decide +kernel)) (by decide) (s2 p1) (s3 p1) ?_
    refine e_L (L' := [some (aR 120), some (aI v1), some (aI v2), some (aI u0)]) (st' := [aR 120]) (show decode (mC 9) 177 = .ok (.aload_n 0, 1) by decide +kernel) rfl (by show (if 120 = 0 then none else some (_, _)) = _; rw [if_neg (by decide)]) ?_
    refine e_getR (w := 122) (show decode (mC 9) 178 = .ok (.getfield 15, 3) by decide +kernel) (show pl 1 15 = some (0, 1, 4, 0) by decide +kernel) (by decide) (sh_ok hG (by decide +kernel)) (sh_rf hG (by decide +kernel)) ?_
    refine e_L (L' := [some (aR 120), some (aI v1), some (aI v2), some (aI u0)]) (st' := [aR 120, aR 122]) (show decode (mC 9) 181 = .ok (.aload_n 0, 1) by decide +kernel) rfl (by show (if 120 = 0 then none else some (_, _)) = _; rw [if_neg (by decide)]) ?_
    refine e_getIx (show decode (mC 9) 182 = .ok (.getfield 29, 3) by decide +kernel) (show pl 1 29 = some (0, 1, 2, 0) by decide +kernel) (by decide) (sh_ok hG (by decide +kernel)) ex2 ?_
    refine e_L (L' := [some (aR 120), some (aI v1), some (aI v2), some (aI u0)]) (st' := [aI v2, aI x2, aR 122]) (show decode (mC 9) 185 = .ok (.iload_n 2, 1) by decide +kernel) rfl rfl ?_
    refine e_iast (n := 30) (show decode (mC 9) 186 = .ok (.iastore, 1) by decide +kernel) (sh_ok hG (by decide +kernel)) (sh_ln hG (by decide +kernel)) (by decide) (s5 p1) (s6 p1) ?_
    refine e_L (L' := [some (aR 120), some (aI v1), some (aI v2), some (aI u0)]) (st' := [aR 120]) (show decode (mC 9) 187 = .ok (.aload_n 0, 1) by decide +kernel) rfl (by show (if 120 = 0 then none else some (_, _)) = _; rw [if_neg (by decide)]) ?_
    refine e_getR (w := 123) (show decode (mC 9) 188 = .ok (.getfield 18, 3) by decide +kernel) (show pl 1 18 = some (0, 1, 5, 0) by decide +kernel) (by decide) (sh_ok hG (by decide +kernel)) (sh_rf hG (by decide +kernel)) ?_
    refine e_L (L' := [some (aR 120), some (aI v1), some (aI v2), some (aI u0)]) (st' := [aR 120, aR 123]) (show decode (mC 9) 191 = .ok (.aload_n 0, 1) by decide +kernel) rfl (by show (if 120 = 0 then none else some (_, _)) = _; rw [if_neg (by decide)]) ?_
    refine e_getIx (show decode (mC 9) 192 = .ok (.getfield 29, 3) by decide +kernel) (show pl 1 29 = some (0, 1, 2, 0) by decide +kernel) (by decide) (sh_ok hG (by decide +kernel)) ex3 ?_
    refine e_L (L' := [some (aR 120), some (aI v1), some (aI v2), some (aI u0)]) (st' := [aI u0, aI x3, aR 123]) (show decode (mC 9) 195 = .ok (.iload_n 3, 1) by decide +kernel) rfl rfl ?_
    refine e_iast (n := 30) (show decode (mC 9) 196 = .ok (.iastore, 1) by decide +kernel) (sh_ok hG (by decide +kernel)) (sh_ln hG (by decide +kernel)) (by decide) (s8 p1) (s9 p1) ?_
    refine e_L (L' := [some (aR 120), some (aI v1), some (aI v2), some (aI u0)]) (st' := [aR 120]) (show decode (mC 9) 197 = .ok (.aload_n 0, 1) by decide +kernel) rfl (by show (if 120 = 0 then none else some (_, _)) = _; rw [if_neg (by decide)]) ?_
    refine e_P (st' := [aR 120, aR 120]) (show decode (mC 9) 198 = .ok (.dup, 1) by decide +kernel) rfl rfl rfl ?_
    refine e_getIx (show decode (mC 9) 199 = .ok (.getfield 29, 3) by decide +kernel) (show pl 1 29 = some (0, 1, 2, 0) by decide +kernel) (by decide) (sh_ok hG (by decide +kernel)) ex4 ?_
    refine e_P (st' := [aI 1, aI x4, aR 120]) (show decode (mC 9) 202 = .ok (.iconst 1, 1) by decide +kernel) rfl rfl rfl ?_
    refine e_P (st' := [aI (x4 + 1), aR 120]) (show decode (mC 9) 203 = .ok (.iadd, 1) by decide +kernel) rfl rfl rfl ?_
    refine e_putI (show decode (mC 9) 204 = .ok (.putfield 29, 3) by decide +kernel) (show pl 1 29 = some (0, 1, 2, 0) by decide +kernel) (by decide) (sh_ok hG (by decide +kernel)) ?_
    refine e_P (st' := [aI 1]) (show decode (mC 9) 207 = .ok (.iconst 1, 1) by decide +kernel) rfl rfl rfl ?_
    exact e_zret (show decode (mC 9) 208 = .ok (.ireturn, 1) by decide +kernel) rfl (by decide) (z11 p1)
  · refine e_P (st' := [aI 0]) (show decode (mC 9) 165 = .ok (.iconst 0, 1) by decide +kernel) rfl rfl rfl ?_
    exact e_zret (show decode (mC 9) 166 = .ok (.ireturn, 1) by decide +kernel) rfl (by decide) (z12 p1)
/-- SoulOffice$Book.runOn(LSoulOffice$Life;)V, from 0 -/
theorem b10_0 (hG : Shp G) {x1 : Int} {a : Nat} (h_a : Life a)
    (ex1 : c a 2 = x1)
    (k1 : T (d + 1) 10 22 [some (aR 120), some (aR a), some (aI x1), some (aI 0)] [] (G, (q_up (q_up (q_up c 120 6 1) 120 7 0) 120 8 0)) Q) :
    T (d + 1) 10 0 [some (aR 120), some (aR a), none, none] [] (G, c) Q := by
  refine e_L (L' := [some (aR 120), some (aR a), none, none]) (st' := [aR a]) (show decode (mC 10) 0 = .ok (.aload_n 1, 1) by decide +kernel) rfl (by show (if a = 0 then none else some (_, _)) = _; rw [if_neg (show ¬ a = 0 from lf_ne h_a 0)]) ?_
  refine e_getIx (show decode (mC 10) 1 = .ok (.getfield 92, 3) by decide +kernel) (show pl 1 92 = some (0, 4, 2, 0) by decide +kernel) (by decide) (lf_ok hG h_a 0 (by decide)) ex1 ?_
  refine e_L (L' := [some (aR 120), some (aR a), some (aI x1), none]) (st' := []) (show decode (mC 10) 4 = .ok (.istore_n 2, 1) by decide +kernel) rfl rfl ?_
  refine e_L (L' := [some (aR 120), some (aR a), some (aI x1), none]) (st' := [aR 120]) (show decode (mC 10) 5 = .ok (.aload_n 0, 1) by decide +kernel) rfl (by show (if 120 = 0 then none else some (_, _)) = _; rw [if_neg (by decide)]) ?_
  refine e_P (st' := [aI 1, aR 120]) (show decode (mC 10) 6 = .ok (.iconst 1, 1) by decide +kernel) rfl rfl rfl ?_
  refine e_putZ (show decode (mC 10) 7 = .ok (.putfield 97, 3) by decide +kernel) (show pl 1 97 = some (0, 1, 6, 0) by decide +kernel) (by decide) (sh_ok hG (by decide +kernel)) (by decide) ?_
  refine e_L (L' := [some (aR 120), some (aR a), some (aI x1), none]) (st' := [aR 120]) (show decode (mC 10) 10 = .ok (.aload_n 0, 1) by decide +kernel) rfl (by show (if 120 = 0 then none else some (_, _)) = _; rw [if_neg (by decide)]) ?_
  refine e_P (st' := [aI 0, aR 120]) (show decode (mC 10) 11 = .ok (.iconst 0, 1) by decide +kernel) rfl rfl rfl ?_
  refine e_putI (show decode (mC 10) 12 = .ok (.putfield 101, 3) by decide +kernel) (show pl 1 101 = some (0, 1, 7, 0) by decide +kernel) (by decide) (sh_ok hG (by decide +kernel)) ?_
  refine e_L (L' := [some (aR 120), some (aR a), some (aI x1), none]) (st' := [aR 120]) (show decode (mC 10) 15 = .ok (.aload_n 0, 1) by decide +kernel) rfl (by show (if 120 = 0 then none else some (_, _)) = _; rw [if_neg (by decide)]) ?_
  refine e_P (st' := [aI 0, aR 120]) (show decode (mC 10) 16 = .ok (.iconst 0, 1) by decide +kernel) rfl rfl rfl ?_
  refine e_putI (show decode (mC 10) 17 = .ok (.putfield 104, 3) by decide +kernel) (show pl 1 104 = some (0, 1, 8, 0) by decide +kernel) (by decide) (sh_ok hG (by decide +kernel)) ?_
  refine e_P (st' := [aI 0]) (show decode (mC 10) 20 = .ok (.iconst 0, 1) by decide +kernel) rfl rfl rfl ?_
  refine e_L (L' := [some (aR 120), some (aR a), some (aI x1), some (aI 0)]) (st' := []) (show decode (mC 10) 21 = .ok (.istore_n 3, 1) by decide +kernel) rfl rfl ?_
  exact k1
/-- SoulOffice$Book.runOn(LSoulOffice$Life;)V, from 22 -/
theorem b10_22 (hG : Shp G) {v2 v3 x1 x2 x3 : Int} {a : Nat} (h_a : Life a) (hQ : ∀ o o' h', q_eqo o o' → Q o h' → Q o' h')
    (ex1 : c 120 2 = x1)
    (s1 : -2147483648 ≤ v3 ∧ v3 < 2147483648)
    (s2 : -2147483648 ≤ x1 ∧ x1 < 2147483648)
    (ex2 : c a 2 = x2)
    (m4 : (x1 ≤ v3) → TM d 24 [aR a] (G, (q_up c 120 9 (x2 - v2))) (fun r h' => T (d + 1) 10 87 [none, none, none, none] (r.toList ++ [aR 120]) h' Q))
    (ex3 : c a 2 = x3)
    (m6 : (v3 < x1) → (30 ≤ v3) → TM d 24 [aR a] (G, (q_up c 120 9 (x3 - v2))) (fun r h' => T (d + 1) 10 87 [none, none, none, none] (r.toList ++ [aR 120]) h' Q))
    (m7 : (v3 < x1) → (v3 < 30) → TM d 11 [aR 120, aR a, aI v3] (G, c) (fun r h' => T (d + 1) 10 43 [some (aR 120), some (aR a), some (aI v2), some (aI v3)] (r.toList ++ [aR 120]) h' Q)) :
    T (d + 1) 10 22 [some (aR 120), some (aR a), some (aI v2), some (aI v3)] [] (G, c) Q := by
  refine e_L (L' := [some (aR 120), some (aR a), some (aI v2), some (aI v3)]) (st' := [aI v3]) (show decode (mC 10) 22 = .ok (.iload_n 3, 1) by decide +kernel) rfl rfl ?_
  refine e_L (L' := [some (aR 120), some (aR a), some (aI v2), some (aI v3)]) (st' := [aR 120, aI v3]) (show decode (mC 10) 23 = .ok (.aload_n 0, 1) by decide +kernel) rfl (by show (if 120 = 0 then none else some (_, _)) = _; rw [if_neg (by decide)]) ?_
  refine e_getIx (show decode (mC 10) 24 = .ok (.getfield 29, 3) by decide +kernel) (show pl 1 29 = some (0, 1, 2, 0) by decide +kernel) (by decide) (sh_ok hG (by decide +kernel)) ex1 ?_
  refine e_ge2 (t := 72) (show decode (mC 10) 27 = .ok (.if_icmp .ge 45, 3) by decide +kernel) (by decide) s1 s2 (fun p1 => ?_) (fun p1 => ?_)
  · refine e_L (L' := [some (aR 120), some (aR a), some (aI v2), some (aI v3)]) (st' := [aR 120]) (show decode (mC 10) 72 = .ok (.aload_n 0, 1) by decide +kernel) rfl (by show (if 120 = 0 then none else some (_, _)) = _; rw [if_neg (by decide)]) ?_
    refine e_L (L' := [some (aR 120), some (aR a), some (aI v2), some (aI v3)]) (st' := [aR a, aR 120]) (show decode (mC 10) 73 = .ok (.aload_n 1, 1) by decide +kernel) rfl (by show (if a = 0 then none else some (_, _)) = _; rw [if_neg (show ¬ a = 0 from lf_ne h_a 0)]) ?_
    refine e_getIx (show decode (mC 10) 74 = .ok (.getfield 92, 3) by decide +kernel) (show pl 1 92 = some (0, 4, 2, 0) by decide +kernel) (by decide) (lf_ok hG h_a 0 (by decide)) ex2 ?_
    refine e_L (L' := [some (aR 120), some (aR a), some (aI v2), some (aI v3)]) (st' := [aI v2, aI x2, aR 120]) (show decode (mC 10) 77 = .ok (.iload_n 2, 1) by decide +kernel) rfl rfl ?_
    refine e_P (st' := [aI (x2 - v2), aR 120]) (show decode (mC 10) 78 = .ok (.isub, 1) by decide +kernel) rfl rfl rfl ?_
    refine e_putI (show decode (mC 10) 79 = .ok (.putfield 111, 3) by decide +kernel) (show pl 1 111 = some (0, 1, 9, 0) by decide +kernel) (by decide) (sh_ok hG (by decide +kernel)) ?_
    refine e_L (L' := [some (aR 120), some (aR a), some (aI v2), some (aI v3)]) (st' := [aR 120]) (show decode (mC 10) 82 = .ok (.aload_n 0, 1) by decide +kernel) rfl (by show (if 120 = 0 then none else some (_, _)) = _; rw [if_neg (by decide)]) ?_
    refine e_L (L' := [some (aR 120), some (aR a), some (aI v2), some (aI v3)]) (st' := [aR a, aR 120]) (show decode (mC 10) 83 = .ok (.aload_n 1, 1) by decide +kernel) rfl (by show (if a = 0 then none else some (_, _)) = _; rw [if_neg (show ¬ a = 0 from lf_ne h_a 0)]) ?_
    exact e_V (as := [aR a]) (rest := [aR 120]) (show decode (mC 10) 84 = .ok (.invokevirtual 114, 3) by decide +kernel) (by decide +kernel) (show (decide ((1 : Nat) = mA 24) && decide (24 < q_law)) = true by decide +kernel) rfl (show (1 : Nat) ≤ 8 by decide) (show (1 : Nat) ≤ mL 24 by decide +kernel) rfl (lf_ok hG h_a 0 (by decide)) (tm_le hQ (leN (leN (leN (leN leE)))) (m4 p1))
  · refine e_L (L' := [some (aR 120), some (aR a), some (aI v2), some (aI v3)]) (st' := [aI v3]) (show decode (mC 10) 30 = .ok (.iload_n 3, 1) by decide +kernel) rfl rfl ?_
    refine e_P (st' := [aI 30, aI v3]) (show decode (mC 10) 31 = .ok (.bipush 30, 2) by decide +kernel) rfl rfl rfl ?_
    refine e_ge2 (t := 72) (show decode (mC 10) 33 = .ok (.if_icmp .ge 39, 3) by decide +kernel) (by decide) s1 (by decide) (fun p2 => ?_) (fun p2 => ?_)
    · refine e_L (L' := [some (aR 120), some (aR a), some (aI v2), some (aI v3)]) (st' := [aR 120]) (show decode (mC 10) 72 = .ok (.aload_n 0, 1) by decide +kernel) rfl (by show (if 120 = 0 then none else some (_, _)) = _; rw [if_neg (by decide)]) ?_
      refine e_L (L' := [some (aR 120), some (aR a), some (aI v2), some (aI v3)]) (st' := [aR a, aR 120]) (show decode (mC 10) 73 = .ok (.aload_n 1, 1) by decide +kernel) rfl (by show (if a = 0 then none else some (_, _)) = _; rw [if_neg (show ¬ a = 0 from lf_ne h_a 0)]) ?_
      refine e_getIx (show decode (mC 10) 74 = .ok (.getfield 92, 3) by decide +kernel) (show pl 1 92 = some (0, 4, 2, 0) by decide +kernel) (by decide) (lf_ok hG h_a 0 (by decide)) ex3 ?_
      refine e_L (L' := [some (aR 120), some (aR a), some (aI v2), some (aI v3)]) (st' := [aI v2, aI x3, aR 120]) (show decode (mC 10) 77 = .ok (.iload_n 2, 1) by decide +kernel) rfl rfl ?_
      refine e_P (st' := [aI (x3 - v2), aR 120]) (show decode (mC 10) 78 = .ok (.isub, 1) by decide +kernel) rfl rfl rfl ?_
      refine e_putI (show decode (mC 10) 79 = .ok (.putfield 111, 3) by decide +kernel) (show pl 1 111 = some (0, 1, 9, 0) by decide +kernel) (by decide) (sh_ok hG (by decide +kernel)) ?_
      refine e_L (L' := [some (aR 120), some (aR a), some (aI v2), some (aI v3)]) (st' := [aR 120]) (show decode (mC 10) 82 = .ok (.aload_n 0, 1) by decide +kernel) rfl (by show (if 120 = 0 then none else some (_, _)) = _; rw [if_neg (by decide)]) ?_
      refine e_L (L' := [some (aR 120), some (aR a), some (aI v2), some (aI v3)]) (st' := [aR a, aR 120]) (show decode (mC 10) 83 = .ok (.aload_n 1, 1) by decide +kernel) rfl (by show (if a = 0 then none else some (_, _)) = _; rw [if_neg (show ¬ a = 0 from lf_ne h_a 0)]) ?_
      exact e_V (as := [aR a]) (rest := [aR 120]) (show decode (mC 10) 84 = .ok (.invokevirtual 114, 3) by decide +kernel) (by decide +kernel) (show (decide ((1 : Nat) = mA 24) && decide (24 < q_law)) = true by decide +kernel) rfl (show (1 : Nat) ≤ 8 by decide) (show (1 : Nat) ≤ mL 24 by decide +kernel) rfl (lf_ok hG h_a 0 (by decide)) (tm_le hQ (leN (leN (leN (leN leE)))) (m6 p1 p2))
    · refine e_L (L' := [some (aR 120), some (aR a), some (aI v2), some (aI v3)]) (st' := [aR 120]) (show decode (mC 10) 36 = .ok (.aload_n 0, 1) by decide +kernel) rfl (by show (if 120 = 0 then none else some (_, _)) = _; rw [if_neg (by decide)]) ?_
      refine e_L (L' := [some (aR 120), some (aR a), some (aI v2), some (aI v3)]) (st' := [aR 120, aR 120]) (show decode (mC 10) 37 = .ok (.aload_n 0, 1) by decide +kernel) rfl (by show (if 120 = 0 then none else some (_, _)) = _; rw [if_neg (by decide)]) ?_
      refine e_L (L' := [some (aR 120), some (aR a), some (aI v2), some (aI v3)]) (st' := [aR a, aR 120, aR 120]) (show decode (mC 10) 38 = .ok (.aload_n 1, 1) by decide +kernel) rfl (by show (if a = 0 then none else some (_, _)) = _; rw [if_neg (show ¬ a = 0 from lf_ne h_a 0)]) ?_
      refine e_L (L' := [some (aR 120), some (aR a), some (aI v2), some (aI v3)]) (st' := [aI v3, aR a, aR 120, aR 120]) (show decode (mC 10) 39 = .ok (.iload_n 3, 1) by decide +kernel) rfl rfl ?_
      exact e_V (as := [aR 120, aR a, aI v3]) (rest := [aR 120]) (show decode (mC 10) 40 = .ok (.invokevirtual 107, 3) by decide +kernel) (by decide +kernel) (show (decide ((3 : Nat) = mA 11) && decide (11 < q_law)) = true by decide +kernel) rfl (show (1 : Nat) ≤ 8 by decide) (show (3 : Nat) ≤ mL 11 by decide +kernel) rfl (sh_ok hG (by decide +kernel)) (m7 p1 p2)
/-- SoulOffice$Book.runOn(LSoulOffice$Life;)V, from 43 -/
theorem b10_43 (hG : Shp G) {v2 v3 u1 x1 x2 x3 : Int} {a : Nat} (h_a : Life a) (hQ : ∀ o o' h', q_eqo o o' → Q o h' → Q o' h')
    (ex1 : (q_up c 120 7 u1) 120 7 = x1)
    (s1 : -2147483648 ≤ x1 ∧ x1 < 2147483648)
    (ex2 : (q_up c 120 7 u1) 120 8 = x2)
    (k3 : (x1 = 0) → T (d + 1) 10 22 [some (aR 120), some (aR a), some (aI v2), some (aI (v3 + 1))] [] (G, (q_up (q_up c 120 7 u1) 120 8 (x2 + 1))) Q)
    (ex3 : (q_up c 120 7 u1) a 2 = x3)
    (m5 : (¬ x1 = 0) → TM d 24 [aR a] (G, (q_up (q_up c 120 7 u1) 120 9 (x3 - v2))) (fun r h' => T (d + 1) 10 87 [none, none, none, none] (r.toList ++ [aR 120]) h' Q)) :
    T (d + 1) 10 43 [some (aR 120), some (aR a), some (aI v2), some (aI v3)] [aI u1, aR 120] (G, c) Q := by
  refine e_putI (show decode (mC 10) 43 = .ok (.putfield 101, 3) by decide +kernel) (show pl 1 101 = some (0, 1, 7, 0) by decide +kernel) (by decide) (sh_ok hG (by decide +kernel)) ?_
  refine e_L (L' := [some (aR 120), some (aR a), some (aI v2), some (aI v3)]) (st' := [aR 120]) (show decode (mC 10) 46 = .ok (.aload_n 0, 1) by decide +kernel) rfl (by show (if 120 = 0 then none else some (_, _)) = _; rw [if_neg (by decide)]) ?_
  refine e_getIx (show decode (mC 10) 47 = .ok (.getfield 101, 3) by decide +kernel) (show pl 1 101 = some (0, 1, 7, 0) by decide +kernel) (by decide) (sh_ok hG (by decide +kernel)) ex1 ?_
  refine e_eq1 (t := 56) (show decode (mC 10) 50 = .ok (.ifCond .eq 6, 3) by decide +kernel) (by decide) s1 (fun p1 => ?_) (fun p1 => ?_)
  · refine e_L (L' := [some (aR 120), some (aR a), some (aI v2), some (aI v3)]) (st' := [aR 120]) (show decode (mC 10) 56 = .ok (.aload_n 0, 1) by decide +kernel) rfl (by show (if 120 = 0 then none else some (_, _)) = _; rw [if_neg (by decide)]) ?_
    refine e_P (st' := [aR 120, aR 120]) (show decode (mC 10) 57 = .ok (.dup, 1) by decide +kernel) rfl rfl rfl ?_
    refine e_getIx (show decode (mC 10) 58 = .ok (.getfield 104, 3) by decide +kernel) (show pl 1 104 = some (0, 1, 8, 0) by decide +kernel) (by decide) (sh_ok hG (by decide +kernel)) ex2 ?_
    refine e_P (st' := [aI 1, aI x2, aR 120]) (show decode (mC 10) 61 = .ok (.iconst 1, 1) by decide +kernel) rfl rfl rfl ?_
    refine e_P (st' := [aI (x2 + 1), aR 120]) (show decode (mC 10) 62 = .ok (.iadd, 1) by decide +kernel) rfl rfl rfl ?_
    refine e_putI (show decode (mC 10) 63 = .ok (.putfield 104, 3) by decide +kernel) (show pl 1 104 = some (0, 1, 8, 0) by decide +kernel) (by decide) (sh_ok hG (by decide +kernel)) ?_
    refine e_L (L' := [some (aR 120), some (aR a), some (aI v2), some (aI (v3 + 1))]) (st' := []) (show decode (mC 10) 66 = .ok (.iinc 3 1, 3) by decide +kernel) rfl rfl ?_
    refine e_go (t := 22) (show decode (mC 10) 69 = .ok (.goto (-47), 3) by decide +kernel) (by decide) ?_
    exact (k3 p1)
  · refine e_go (t := 72) (show decode (mC 10) 53 = .ok (.goto 19, 3) by decide +kernel) (by decide) ?_
    refine e_L (L' := [some (aR 120), some (aR a), some (aI v2), some (aI v3)]) (st' := [aR 120]) (show decode (mC 10) 72 = .ok (.aload_n 0, 1) by decide +kernel) rfl (by show (if 120 = 0 then none else some (_, _)) = _; rw [if_neg (by decide)]) ?_
    refine e_L (L' := [some (aR 120), some (aR a), some (aI v2), some (aI v3)]) (st' := [aR a, aR 120]) (show decode (mC 10) 73 = .ok (.aload_n 1, 1) by decide +kernel) rfl (by show (if a = 0 then none else some (_, _)) = _; rw [if_neg (show ¬ a = 0 from lf_ne h_a 0)]) ?_
    refine e_getIx (show decode (mC 10) 74 = .ok (.getfield 92, 3) by decide +kernel) (show pl 1 92 = some (0, 4, 2, 0) by decide +kernel) (by decide) (lf_ok hG h_a 0 (by decide)) ex3 ?_
    refine e_L (L' := [some (aR 120), some (aR a), some (aI v2), some (aI v3)]) (st' := [aI v2, aI x3, aR 120]) (show decode (mC 10) 77 = .ok (.iload_n 2, 1) by decide +kernel) rfl rfl ?_
    refine e_P (st' := [aI (x3 - v2), aR 120]) (show decode (mC 10) 78 = .ok (.isub, 1) by decide +kernel) rfl rfl rfl ?_
    refine e_putI (show decode (mC 10) 79 = .ok (.putfield 111, 3) by decide +kernel) (show pl 1 111 = some (0, 1, 9, 0) by decide +kernel) (by decide) (sh_ok hG (by decide +kernel)) ?_
    refine e_L (L' := [some (aR 120), some (aR a), some (aI v2), some (aI v3)]) (st' := [aR 120]) (show decode (mC 10) 82 = .ok (.aload_n 0, 1) by decide +kernel) rfl (by show (if 120 = 0 then none else some (_, _)) = _; rw [if_neg (by decide)]) ?_
    refine e_L (L' := [some (aR 120), some (aR a), some (aI v2), some (aI v3)]) (st' := [aR a, aR 120]) (show decode (mC 10) 83 = .ok (.aload_n 1, 1) by decide +kernel) rfl (by show (if a = 0 then none else some (_, _)) = _; rw [if_neg (show ¬ a = 0 from lf_ne h_a 0)]) ?_
    exact e_V (as := [aR a]) (rest := [aR 120]) (show decode (mC 10) 84 = .ok (.invokevirtual 114, 3) by decide +kernel) (by decide +kernel) (show (decide ((1 : Nat) = mA 24) && decide (24 < q_law)) = true by decide +kernel) rfl (show (1 : Nat) ≤ 8 by decide) (show (1 : Nat) ≤ mL 24 by decide +kernel) rfl (lf_ok hG h_a 0 (by decide)) (tm_le hQ (leN (leN (leN (leN leE)))) (m5 p1))
/-- SoulOffice$Book.runOn(LSoulOffice$Life;)V, from 87 -/
theorem b10_87 (hG : Shp G) {u1 : Int}
    (z0 : Q (.inl none) (G, (q_up c 120 10 u1))) :
    T (d + 1) 10 87 [none, none, none, none] [aI u1, aR 120] (G, c) Q := by
  refine e_putI (show decode (mC 10) 87 = .ok (.putfield 118, 3) by decide +kernel) (show pl 1 118 = some (0, 1, 10, 0) by decide +kernel) (by decide) (sh_ok hG (by decide +kernel)) ?_
  exact e_vret (show decode (mC 10) 90 = .ok (.return_, 1) by decide +kernel) rfl z0
/-- SoulOffice$Book.runLine(LSoulOffice$Life;I)I, from 0 -/
theorem b11_0 (hG : Shp G) {v2 x1 x2 x3 x4 : Int} {a : Nat} (h_a : Life a)
    (s0 : 0 ≤ v2)
    (s1 : v2 < 30)
    (ex1 : c 121 v2 = x1)
    (s3 : -2147483648 ≤ x1 ∧ x1 < 2147483648)
    (ex2 : c 123 v2 = x2)
    (m5 : (¬ x1 = 7) → TM d 32 [aR a, aI x2] (G, c) (fun r h' => T (d + 1) 11 60 [some (aR 120), some (aR a), some (aI v2), none] (r.toList ++ []) h' Q))
    (ex3 : c 122 v2 = x3)
    (ex4 : c 123 v2 = x4)
    (m8 : (x1 = 7) → TM d 29 [aR a, aI x3, aI x4] (G, c) (fun r h' => T (d + 1) 11 27 [some (aR 120), some (aR a), some (aI v2), none] (r.toList ++ []) h' Q)) :
    T (d + 1) 11 0 [some (aR 120), some (aR a), some (aI v2), none] [] (G, c) Q := by
  refine e_L (L' := [some (aR 120), some (aR a), some (aI v2), none]) (st' := [aR 120]) (show decode (mC 11) 0 = .ok (.aload_n 0, 1) by decide +kernel) rfl (by show (if 120 = 0 then none else some (_, _)) = _; rw [if_neg (by decide)]) ?_
  refine e_getR (w := 121) (show decode (mC 11) 1 = .ok (.getfield 9, 3) by decide +kernel) (show pl 1 9 = some (0, 1, 3, 0) by decide +kernel) (by decide) (sh_ok hG (by decide +kernel)) (sh_rf hG (by decide +kernel)) ?_
  refine e_L (L' := [some (aR 120), some (aR a), some (aI v2), none]) (st' := [aI v2, aR 121]) (show decode (mC 11) 4 = .ok (.iload_n 2, 1) by decide +kernel) rfl rfl ?_
  refine e_ialdx (n := 30) (show decode (mC 11) 5 = .ok (.iaload, 1) by decide +kernel) (sh_ok hG (by decide +kernel)) (sh_ln hG (by decide +kernel)) (by decide) s0 s1 ex1 ?_
  refine e_P (st' := [aI 7, aI x1]) (show decode (mC 11) 6 = .ok (.bipush 7, 2) by decide +kernel) rfl rfl rfl ?_
  refine e_ne2 (t := 50) (show decode (mC 11) 8 = .ok (.if_icmp .ne 42, 3) by decide +kernel) (by decide) s3 (by decide) (fun p1 => ?_) (fun p1 => ?_)
  · refine e_L (L' := [some (aR 120), some (aR a), some (aI v2), none]) (st' := [aR a]) (show decode (mC 11) 50 = .ok (.aload_n 1, 1) by decide +kernel) rfl (by show (if a = 0 then none else some (_, _)) = _; rw [if_neg (show ¬ a = 0 from lf_ne h_a 0)]) ?_
    refine e_L (L' := [some (aR 120), some (aR a), some (aI v2), none]) (st' := [aR 120, aR a]) (show decode (mC 11) 51 = .ok (.aload_n 0, 1) by decide +kernel) rfl (by show (if 120 = 0 then none else some (_, _)) = _; rw [if_neg (by decide)]) ?_
    refine e_getR (w := 123) (show decode (mC 11) 52 = .ok (.getfield 18, 3) by decide +kernel) (show pl 1 18 = some (0, 1, 5, 0) by decide +kernel) (by decide) (sh_ok hG (by decide +kernel)) (sh_rf hG (by decide +kernel)) ?_
    refine e_L (L' := [some (aR 120), some (aR a), some (aI v2), none]) (st' := [aI v2, aR 123, aR a]) (show decode (mC 11) 55 = .ok (.iload_n 2, 1) by decide +kernel) rfl rfl ?_
    refine e_ialdx (n := 30) (show decode (mC 11) 56 = .ok (.iaload, 1) by decide +kernel) (sh_ok hG (by decide +kernel)) (sh_ln hG (by decide +kernel)) (by decide) s0 s1 ex2 ?_
    exact e_V (as := [aR a, aI x2]) (rest := []) (show decode (mC 11) 57 = .ok (.invokevirtual 128, 3) by decide +kernel) (by decide +kernel) (show (decide ((2 : Nat) = mA 32) && decide (32 < q_law)) = true by decide +kernel) rfl (show (0 : Nat) ≤ 8 by decide) (show (2 : Nat) ≤ mL 32 by decide +kernel) rfl (lf_ok hG h_a 0 (by decide)) (m5 p1)
  · refine e_L (L' := [some (aR 120), some (aR a), some (aI v2), none]) (st' := [aR a]) (show decode (mC 11) 11 = .ok (.aload_n 1, 1) by decide +kernel) rfl (by show (if a = 0 then none else some (_, _)) = _; rw [if_neg (show ¬ a = 0 from lf_ne h_a 0)]) ?_
    refine e_L (L' := [some (aR 120), some (aR a), some (aI v2), none]) (st' := [aR 120, aR a]) (show decode (mC 11) 12 = .ok (.aload_n 0, 1) by decide +kernel) rfl (by show (if 120 = 0 then none else some (_, _)) = _; rw [if_neg (by decide)]) ?_
    refine e_getR (w := 122) (show decode (mC 11) 13 = .ok (.getfield 15, 3) by decide +kernel) (show pl 1 15 = some (0, 1, 4, 0) by decide +kernel) (by decide) (sh_ok hG (by decide +kernel)) (sh_rf hG (by decide +kernel)) ?_
    refine e_L (L' := [some (aR 120), some (aR a), some (aI v2), none]) (st' := [aI v2, aR 122, aR a]) (show decode (mC 11) 16 = .ok (.iload_n 2, 1) by decide +kernel) rfl rfl ?_
    refine e_ialdx (n := 30) (show decode (mC 11) 17 = .ok (.iaload, 1) by decide +kernel) (sh_ok hG (by decide +kernel)) (sh_ln hG (by decide +kernel)) (by decide) s0 s1 ex3 ?_
    refine e_L (L' := [some (aR 120), some (aR a), some (aI v2), none]) (st' := [aR 120, aI x3, aR a]) (show decode (mC 11) 18 = .ok (.aload_n 0, 1) by decide +kernel) rfl (by show (if 120 = 0 then none else some (_, _)) = _; rw [if_neg (by decide)]) ?_
    refine e_getR (w := 123) (show decode (mC 11) 19 = .ok (.getfield 18, 3) by decide +kernel) (show pl 1 18 = some (0, 1, 5, 0) by decide +kernel) (by decide) (sh_ok hG (by decide +kernel)) (sh_rf hG (by decide +kernel)) ?_
    refine e_L (L' := [some (aR 120), some (aR a), some (aI v2), none]) (st' := [aI v2, aR 123, aI x3, aR a]) (show decode (mC 11) 22 = .ok (.iload_n 2, 1) by decide +kernel) rfl rfl ?_
    refine e_ialdx (n := 30) (show decode (mC 11) 23 = .ok (.iaload, 1) by decide +kernel) (sh_ok hG (by decide +kernel)) (sh_ln hG (by decide +kernel)) (by decide) s0 s1 ex4 ?_
    exact e_V (as := [aR a, aI x3, aI x4]) (rest := []) (show decode (mC 11) 24 = .ok (.invokevirtual 121, 3) by decide +kernel) (by decide +kernel) (show (decide ((3 : Nat) = mA 29) && decide (29 < q_law)) = true by decide +kernel) rfl (show (0 : Nat) ≤ 8 by decide) (show (3 : Nat) ≤ mL 29 by decide +kernel) rfl (lf_ok hG h_a 0 (by decide)) (m8 p1)
/-- SoulOffice$Book.runLine(LSoulOffice$Life;I)I, from 27 -/
theorem b11_27 (hG : Shp G) {v2 u0 x1 x2 : Int} {a : Nat} (h_a : Life a) (hQ : ∀ o o' h', q_eqo o o' → Q o h' → Q o' h')
    (s0 : -2147483648 ≤ u0 ∧ u0 < 2147483648)
    (k1 : (¬ u0 = 0) → T (d + 1) 11 48 [none, none, none, some (aI u0)] [] (G, c) Q)
    (s2 : (u0 = 0) → 0 ≤ v2)
    (s3 : (u0 = 0) → v2 < 30)
    (ex1 : c 122 v2 = x1)
    (ex2 : c 123 v2 = x2)
    (m6 : (u0 = 0) → TM d 30 [aR a, aI x1, aI x2] (G, c) (fun r h' => T (d + 1) 11 48 [none, none, none, some (aI u0)] (r.toList ++ []) h' Q)) :
    T (d + 1) 11 27 [some (aR 120), some (aR a), some (aI v2), none] [aI u0] (G, c) Q := by
  refine e_L (L' := [some (aR 120), some (aR a), some (aI v2), some (aI u0)]) (st' := []) (show decode (mC 11) 27 = .ok (.istore_n 3, 1) by decide +kernel) rfl rfl ?_
  refine e_L (L' := [some (aR 120), some (aR a), some (aI v2), some (aI u0)]) (st' := [aI u0]) (show decode (mC 11) 28 = .ok (.iload_n 3, 1) by decide +kernel) rfl rfl ?_
  refine e_ne1 (t := 48) (show decode (mC 11) 29 = .ok (.ifCond .ne 19, 3) by decide +kernel) (by decide) s0 (fun p1 => ?_) (fun p1 => ?_)
  · exact T_le hQ (leN (leN (leN (leS leE)))) (k1 p1)
  · refine e_L (L' := [some (aR 120), some (aR a), some (aI v2), some (aI u0)]) (st' := [aR a]) (show decode (mC 11) 32 = .ok (.aload_n 1, 1) by decide +kernel) rfl (by show (if a = 0 then none else some (_, _)) = _; rw [if_neg (show ¬ a = 0 from lf_ne h_a 0)]) ?_
    refine e_L (L' := [some (aR 120), some (aR a), some (aI v2), some (aI u0)]) (st' := [aR 120, aR a]) (show decode (mC 11) 33 = .ok (.aload_n 0, 1) by decide +kernel) rfl (by show (if 120 = 0 then none else some (_, _)) = _; rw [if_neg (by decide)]) ?_
    refine e_getR (w := 122) (show decode (mC 11) 34 = .ok (.getfield 15, 3) by decide +kernel) (show pl 1 15 = some (0, 1, 4, 0) by decide +kernel) (by decide) (sh_ok hG (by decide +kernel)) (sh_rf hG (by decide +kernel)) ?_
    refine e_L (L' := [some (aR 120), some (aR a), some (aI v2), some (aI u0)]) (st' := [aI v2, aR 122, aR a]) (show decode (mC 11) 37 = .ok (.iload_n 2, 1) by decide +kernel) rfl rfl ?_
    refine e_ialdx (n := 30) (show decode (mC 11) 38 = .ok (.iaload, 1) by decide +kernel) (sh_ok hG (by decide +kernel)) (sh_ln hG (by decide +kernel)) (by decide) (s2 p1) (s3 p1) ex1 ?_
    refine e_L (L' := [some (aR 120), some (aR a), some (aI v2), some (aI u0)]) (st' := [aR 120, aI x1, aR a]) (show decode (mC 11) 39 = .ok (.aload_n 0, 1) by decide +kernel) rfl (by show (if 120 = 0 then none else some (_, _)) = _; rw [if_neg (by decide)]) ?_
    refine e_getR (w := 123) (show decode (mC 11) 40 = .ok (.getfield 18, 3) by decide +kernel) (show pl 1 18 = some (0, 1, 5, 0) by decide +kernel) (by decide) (sh_ok hG (by decide +kernel)) (sh_rf hG (by decide +kernel)) ?_
    refine e_L (L' := [some (aR 120), some (aR a), some (aI v2), some (aI u0)]) (st' := [aI v2, aR 123, aI x1, aR a]) (show decode (mC 11) 43 = .ok (.iload_n 2, 1) by decide +kernel) rfl rfl ?_
    refine e_ialdx (n := 30) (show decode (mC 11) 44 = .ok (.iaload, 1) by decide +kernel) (sh_ok hG (by decide +kernel)) (sh_ln hG (by decide +kernel)) (by decide) (s2 p1) (s3 p1) ex2 ?_
    exact e_V (as := [aR a, aI x1, aI x2]) (rest := []) (show decode (mC 11) 45 = .ok (.invokevirtual 124, 3) by decide +kernel) (by decide +kernel) (show (decide ((3 : Nat) = mA 30) && decide (30 < q_law)) = true by decide +kernel) rfl (show (0 : Nat) ≤ 8 by decide) (show (3 : Nat) ≤ mL 30 by decide +kernel) rfl (lf_ok hG h_a 0 (by decide)) (tm_le hQ (leN (leN (leN (leS leE)))) (m6 p1))
/-- SoulOffice$Book.runLine(LSoulOffice$Life;I)I, from 48 -/
theorem b11_48 (hG : Shp G) {v3 : Int}
    (z0 : Q (.inl (some (aI v3))) (G, c)) :
    T (d + 1) 11 48 [none, none, none, some (aI v3)] [] (G, c) Q := by
  refine e_L (L' := [none, none, none, some (aI v3)]) (st' := [aI v3]) (show decode (mC 11) 48 = .ok (.iload_n 3, 1) by decide +kernel) rfl rfl ?_
  exact e_iret (show decode (mC 11) 49 = .ok (.ireturn, 1) by decide +kernel) rfl z0
/-- SoulOffice$Book.runLine(LSoulOffice$Life;I)I, from 60 -/
theorem b11_60 (hG : Shp G) {v2 u0 x1 x2 x3 : Int} {a : Nat} (h_a : Life a) (hQ : ∀ o o' h', q_eqo o o' → Q o h' → Q o' h')
    (s0 : -2147483648 ≤ u0 ∧ u0 < 2147483648)
    (s1 : (¬ u0 = 0) → 0 ≤ v2)
    (s2 : (¬ u0 = 0) → v2 < 30)
    (ex1 : c 121 v2 = x1)
    (s4 : (¬ u0 = 0) → -2147483648 ≤ x1 ∧ x1 < 2147483648)
    (ex2 : c 123 v2 = x2)
    (m6 : (¬ u0 = 0) → (¬ x1 = 8) → TM d 34 [aR a, aI x2] (G, c) (fun r h' => T (d + 1) 11 99 [none, none, none, none] (r.toList ++ []) h' Q))
    (ex3 : c 123 v2 = x3)
    (m8 : (¬ u0 = 0) → (x1 = 8) → TM d 33 [aR a, aI x3] (G, c) (fun r h' => T (d + 1) 11 86 [none, none, none, none] (r.toList ++ []) h' Q))
    (z9 : (u0 = 0) → Q (.inl (some (aI 4))) (G, c)) :
    T (d + 1) 11 60 [some (aR 120), some (aR a), some (aI v2), none] [aI u0] (G, c) Q := by
  refine e_ne1 (t := 65) (show decode (mC 11) 60 = .ok (.ifCond .ne 5, 3) by decide +kernel) (by decide) s0 (fun p1 => ?_) (fun p1 => ?_)
  · refine e_L (L' := [some (aR 120), some (aR a), some (aI v2), none]) (st' := [aR 120]) (show decode (mC 11) 65 = .ok (.aload_n 0, 1) by decide +kernel) rfl (by show (if 120 = 0 then none else some (_, _)) = _; rw [if_neg (by decide)]) ?_
    refine e_getR (w := 121) (show decode (mC 11) 66 = .ok (.getfield 9, 3) by decide +kernel) (show pl 1 9 = some (0, 1, 3, 0) by decide +kernel) (by decide) (sh_ok hG (by decide +kernel)) (sh_rf hG (by decide +kernel)) ?_
    refine e_L (L' := [some (aR 120), some (aR a), some (aI v2), none]) (st' := [aI v2, aR 121]) (show decode (mC 11) 69 = .ok (.iload_n 2, 1) by decide +kernel) rfl rfl ?_
    refine e_ialdx (n := 30) (show decode (mC 11) 70 = .ok (.iaload, 1) by decide +kernel) (sh_ok hG (by decide +kernel)) (sh_ln hG (by decide +kernel)) (by decide) (s1 p1) (s2 p1) ex1 ?_
    refine e_P (st' := [aI 8, aI x1]) (show decode (mC 11) 71 = .ok (.bipush 8, 2) by decide +kernel) rfl rfl rfl ?_
    refine e_ne2 (t := 89) (show decode (mC 11) 73 = .ok (.if_icmp .ne 16, 3) by decide +kernel) (by decide) (s4 p1) (by decide) (fun p2 => ?_) (fun p2 => ?_)
    · refine e_L (L' := [some (aR 120), some (aR a), some (aI v2), none]) (st' := [aR a]) (show decode (mC 11) 89 = .ok (.aload_n 1, 1) by decide +kernel) rfl (by show (if a = 0 then none else some (_, _)) = _; rw [if_neg (show ¬ a = 0 from lf_ne h_a 0)]) ?_
      refine e_L (L' := [some (aR 120), some (aR a), some (aI v2), none]) (st' := [aR 120, aR a]) (show decode (mC 11) 90 = .ok (.aload_n 0, 1) by decide +kernel) rfl (by show (if 120 = 0 then none else some (_, _)) = _; rw [if_neg (by decide)]) ?_
      refine e_getR (w := 123) (show decode (mC 11) 91 = .ok (.getfield 18, 3) by decide +kernel) (show pl 1 18 = some (0, 1, 5, 0) by decide +kernel) (by decide) (sh_ok hG (by decide +kernel)) (sh_rf hG (by decide +kernel)) ?_
      refine e_L (L' := [some (aR 120), some (aR a), some (aI v2), none]) (st' := [aI v2, aR 123, aR a]) (show decode (mC 11) 94 = .ok (.iload_n 2, 1) by decide +kernel) rfl rfl ?_
      refine e_ialdx (n := 30) (show decode (mC 11) 95 = .ok (.iaload, 1) by decide +kernel) (sh_ok hG (by decide +kernel)) (sh_ln hG (by decide +kernel)) (by decide) (s1 p1) (s2 p1) ex2 ?_
      exact e_V (as := [aR a, aI x2]) (rest := []) (show decode (mC 11) 96 = .ok (.invokevirtual 134, 3) by decide +kernel) (by decide +kernel) (show (decide ((2 : Nat) = mA 34) && decide (34 < q_law)) = true by decide +kernel) rfl (show (0 : Nat) ≤ 8 by decide) (show (2 : Nat) ≤ mL 34 by decide +kernel) rfl (lf_ok hG h_a 0 (by decide)) (tm_le hQ (leN (leN (leN (leS leE)))) (m6 p1 p2))
    · refine e_L (L' := [some (aR 120), some (aR a), some (aI v2), none]) (st' := [aR a]) (show decode (mC 11) 76 = .ok (.aload_n 1, 1) by decide +kernel) rfl (by show (if a = 0 then none else some (_, _)) = _; rw [if_neg (show ¬ a = 0 from lf_ne h_a 0)]) ?_
      refine e_L (L' := [some (aR 120), some (aR a), some (aI v2), none]) (st' := [aR 120, aR a]) (show decode (mC 11) 77 = .ok (.aload_n 0, 1) by decide +kernel) rfl (by show (if 120 = 0 then none else some (_, _)) = _; rw [if_neg (by decide)]) ?_
      refine e_getR (w := 123) (show decode (mC 11) 78 = .ok (.getfield 18, 3) by decide +kernel) (show pl 1 18 = some (0, 1, 5, 0) by decide +kernel) (by decide) (sh_ok hG (by decide +kernel)) (sh_rf hG (by decide +kernel)) ?_
      refine e_L (L' := [some (aR 120), some (aR a), some (aI v2), none]) (st' := [aI v2, aR 123, aR a]) (show decode (mC 11) 81 = .ok (.iload_n 2, 1) by decide +kernel) rfl rfl ?_
      refine e_ialdx (n := 30) (show decode (mC 11) 82 = .ok (.iaload, 1) by decide +kernel) (sh_ok hG (by decide +kernel)) (sh_ln hG (by decide +kernel)) (by decide) (s1 p1) (s2 p1) ex3 ?_
      exact e_V (as := [aR a, aI x3]) (rest := []) (show decode (mC 11) 83 = .ok (.invokevirtual 131, 3) by decide +kernel) (by decide +kernel) (show (decide ((2 : Nat) = mA 33) && decide (33 < q_law)) = true by decide +kernel) rfl (show (0 : Nat) ≤ 8 by decide) (show (2 : Nat) ≤ mL 33 by decide +kernel) rfl (lf_ok hG h_a 0 (by decide)) (tm_le hQ (leN (leN (leN (leS leE)))) (m8 p1 p2))
  · refine e_P (st' := [aI 4]) (show decode (mC 11) 63 = .ok (.iconst 4, 1) by decide +kernel) rfl rfl rfl ?_
    exact e_iret (show decode (mC 11) 64 = .ok (.ireturn, 1) by decide +kernel) rfl (z9 p1)
/-- SoulOffice$Book.runLine(LSoulOffice$Life;I)I, from 86 -/
theorem b11_86 (hG : Shp G)
    (k0 : T (d + 1) 11 99 [none, none, none, none] [] (G, c) Q) :
    T (d + 1) 11 86 [none, none, none, none] [] (G, c) Q := by
  refine e_go (t := 99) (show decode (mC 11) 86 = .ok (.goto 13, 3) by decide +kernel) (by decide) ?_
  exact k0
/-- SoulOffice$Book.runLine(LSoulOffice$Life;I)I, from 99 -/
theorem b11_99 (hG : Shp G)
    (z0 : Q (.inl (some (aI 0))) (G, c)) :
    T (d + 1) 11 99 [none, none, none, none] [] (G, c) Q := by
  refine e_P (st' := [aI 0]) (show decode (mC 11) 99 = .ok (.iconst 0, 1) by decide +kernel) rfl rfl rfl ?_
  exact e_iret (show decode (mC 11) 100 = .ok (.ireturn, 1) by decide +kernel) rfl z0
end QB13
