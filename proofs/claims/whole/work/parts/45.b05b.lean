section QB15
variable {d : Nat} {G : GG} {c : CC} {Q : OO → HH → Prop}
/-- SoulOffice$MostSearch.pairSum(IIII)I, from 93 -/
theorem b50_93 (hG : Shp G) {v3 v4 v6 v7 v8 v10 u0 : Int} (hQ : ∀ o o' h', q_eqo o o' → Q o h' → Q o' h')
    (m0 : TM d 51 [aR 124, aI (v6 - v10)] (G, c) (fun r h' => T (d + 1) 50 104 [some (aR 124), none, none, some (aI v3), some (aI v4), some (aI u0), none, some (aI v7), some (aI v8), none, none] (r.toList ++ []) h' Q)) :
    T (d + 1) 50 93 [some (aR 124), none, none, some (aI v3), some (aI v4), none, some (aI v6), some (aI v7), some (aI v8), none, some (aI v10)] [aI u0] (G, c) Q := by
  refine e_L (L' := [some (aR 124), none, none, some (aI v3), some (aI v4), some (aI u0), some (aI v6), some (aI v7), some (aI v8), none, some (aI v10)]) (st' := []) (show decode (mC 50) 93 = .ok (.istore 5, 2) by decide +kernel) rfl rfl ?_
  refine e_L (L' := [some (aR 124), none, none, some (aI v3), some (aI v4), some (aI u0), some (aI v6), some (aI v7), some (aI v8), none, some (aI v10)]) (st' := [aR 124]) (show decode (mC 50) 95 = .ok (.aload_n 0, 1) by decide +kernel) rfl (by show (if 124 = 0 then none else some (_, _)) = _; rw [if_neg (by decide)]) ?_
  refine e_L (L' := [some (aR 124), none, none, some (aI v3), some (aI v4), some (aI u0), some (aI v6), some (aI v7), some (aI v8), none, some (aI v10)]) (st' := [aI v6, aR 124]) (show decode (mC 50) 96 = .ok (.iload 6, 2) by decide +kernel) rfl rfl ?_
  refine e_L (L' := [some (aR 124), none, none, some (aI v3), some (aI v4), some (aI u0), some (aI v6), some (aI v7), some (aI v8), none, some (aI v10)]) (st' := [aI v10, aI v6, aR 124]) (show decode (mC 50) 98 = .ok (.iload 10, 2) by decide +kernel) rfl rfl ?_
  refine e_P (st' := [aI (v6 - v10), aR 124]) (show decode (mC 50) 100 = .ok (.isub, 1) by decide +kernel) rfl rfl rfl ?_
  exact e_V (as := [aR 124, aI (v6 - v10)]) (rest := []) (show decode (mC 50) 101 = .ok (.invokevirtual 124, 3) by decide +kernel) (by decide +kernel) (show (decide ((2 : Nat) = mA 51) && decide (51 < q_law)) = true by decide +kernel) rfl (show (0 : Nat) ≤ 8 by decide) (show (2 : Nat) ≤ mL 51 by decide +kernel) rfl (sh_ok hG (by decide +kernel)) (tm_le hQ (leS (leS (leS (leS (leS (leS (leN (leS (leS (leS (leN leE))))))))))) m0)
/-- SoulOffice$MostSearch.pairSum(IIII)I, from 104 -/
theorem b50_104 (hG : Shp G) {v3 v4 v5 v7 v8 u0 : Int}
    (k0 : T (d + 1) 50 36 [some (aR 124), none, none, some (aI v3), some (aI v4), some (aI v5), some (aI u0), some (aI v7), some (aI (v8 + 1)), none, none] [] (G, c) Q) :
    T (d + 1) 50 104 [some (aR 124), none, none, some (aI v3), some (aI v4), some (aI v5), none, some (aI v7), some (aI v8), none, none] [aI u0] (G, c) Q := by
  refine e_L (L' := [some (aR 124), none, none, some (aI v3), some (aI v4), some (aI v5), some (aI u0), some (aI v7), some (aI v8), none, none]) (st' := []) (show decode (mC 50) 104 = .ok (.istore 6, 2) by decide +kernel) rfl rfl ?_
  refine e_L (L' := [some (aR 124), none, none, some (aI v3), some (aI v4), some (aI v5), some (aI u0), some (aI v7), some (aI (v8 + 1)), none, none]) (st' := []) (show decode (mC 50) 106 = .ok (.iinc 8 1, 3) by decide +kernel) rfl rfl ?_
  refine e_go (t := 36) (show decode (mC 50) 109 = .ok (.goto (-73), 3) by decide +kernel) (by decide) ?_
  exact k0
/-- SoulOffice$MostSearch.grownBy(I)I, from 0 -/
theorem b51_0 (hG : Shp G) {v1 x1 : Int}
    (s0 : -2147483648 ≤ v1 ∧ v1 < 2147483648)
    (z1 : (v1 ≤ 0) → Q (.inl (some (aI 0))) (G, c))
    (ex1 : c 9 2 = x1)
    (s3 : (0 < v1) → -2147483648 ≤ (v1 + x1) ∧ (v1 + x1) < 2147483648)
    (z4 : (0 < v1) → Q (.inl (some (aI (if 99999 < (v1 + x1) then 99999 else (v1 + x1))))) (G, c)) :
    T d 51 0 [some (aR 124), some (aI v1)] [] (G, c) Q := by
  refine e_L (L' := [some (aR 124), some (aI v1)]) (st' := [aI v1]) (show decode (mC 51) 0 = .ok (.iload_n 1, 1) by decide +kernel) rfl rfl ?_
  refine e_le1 (t := 21) (show decode (mC 51) 1 = .ok (.ifCond .le 20, 3) by decide +kernel) (by decide) s0 (fun p1 => ?_) (fun p1 => ?_)
  · refine e_P (st' := [aI 0]) (show decode (mC 51) 21 = .ok (.iconst 0, 1) by decide +kernel) rfl rfl rfl ?_
    exact e_iret (show decode (mC 51) 22 = .ok (.ireturn, 1) by decide +kernel) rfl (z1 p1)
  · refine e_L (L' := [some (aR 124), some (aI v1)]) (st' := [aI v1]) (show decode (mC 51) 4 = .ok (.iload_n 1, 1) by decide +kernel) rfl rfl ?_
    refine e_L (L' := [some (aR 124), some (aI v1)]) (st' := [aR 124, aI v1]) (show decode (mC 51) 5 = .ok (.aload_n 0, 1) by decide +kernel) rfl (by show (if 124 = 0 then none else some (_, _)) = _; rw [if_neg (by decide)]) ?_
    refine e_getR (w := 9) (show decode (mC 51) 6 = .ok (.getfield 33, 3) by decide +kernel) (show pl 5 33 = some (0, 5, 0, 0) by decide +kernel) (by decide) (sh_ok hG (by decide +kernel)) (sh_rf hG (by decide +kernel)) ?_
    refine e_getIx (show decode (mC 51) 9 = .ok (.getfield 127, 3) by decide +kernel) (show pl 5 127 = some (0, 8, 2, 0) by decide +kernel) (by decide) (sh_ok hG (by decide +kernel)) ex1 ?_
    refine e_P (st' := [aI (v1 + x1)]) (show decode (mC 51) 12 = .ok (.iadd, 1) by decide +kernel) rfl rfl rfl ?_
    refine e_ldc (show decode (mC 51) 13 = .ok (.ldc 130, 2) by decide +kernel) (show pl 5 130 = some (8, 0, 0, 99999) by decide +kernel) ?_
    refine e_min (show decode (mC 51) 15 = .ok (.invokestatic 83, 3) by decide +kernel) (show pl 5 83 = some (16, 0, 0, 0) by decide +kernel) (s3 p1) (by decide) (show (0 : Nat) ≤ 20 by decide) ?_
    refine e_go (t := 22) (show decode (mC 51) 18 = .ok (.goto 4, 3) by decide +kernel) (by decide) ?_
    exact e_iret (show decode (mC 51) 22 = .ok (.ireturn, 1) by decide +kernel) rfl (z4 p1)
/-- SoulOffice$MostSearch.choose(II)V, from 0 -/
theorem b52_0 (hG : Shp G) {v1 v2 x1 x2 x3 x4 x5 : Int} (hQ : ∀ o o' h', q_eqo o o' → Q o h' → Q o' h')
    (ex1 : c 124 3 = x1)
    (s1 : -2147483648 ≤ v1 ∧ v1 < 2147483648)
    (s2 : -2147483648 ≤ x1 ∧ x1 < 2147483648)
    (ex2 : c 124 9 = x2)
    (s4 : (x1 ≤ v1) → -2147483648 ≤ v2 ∧ v2 < 2147483648)
    (s5 : (x1 ≤ v1) → -2147483648 ≤ x2 ∧ x2 < 2147483648)
    (k6 : (x1 ≤ v1) → (v2 ≤ x2) → T (d + 1) 52 26 [none, none, none, none] [] (G, c) Q)
    (m7 : (x1 ≤ v1) → (x2 < v2) → TM d 54 [aR 124, aI v2] (G, c) (fun r h' => T (d + 1) 52 26 [none, none, none, none] (r.toList ++ []) h' Q))
    (s8 : (v1 < x1) → (v1 < 5) → 0 ≤ v1)
    (s9 : (v1 < x1) → (v1 < 5) → v1 < 6)
    (ex3 : c 128 v1 = x3)
    (ex4 : c 124 9 = x4)
    (s12 : (v1 < x1) → (v1 < 5) → -2147483648 ≤ (v2 + x3) ∧ (v2 + x3) < 2147483648)
    (s13 : (v1 < x1) → (v1 < 5) → -2147483648 ≤ x4 ∧ x4 < 2147483648)
    (m14 : (v1 < x1) → (v1 < 5) → (x4 < (v2 + x3)) → TM d 269 [aR 124, aI v1, aI (-1), aI v2] (G, c) (fun r h' => T (d + 1) 52 50 [some (aR 124), some (aI v1), some (aI v2), none] (r.toList ++ []) h' Q))
    (z15 : (v1 < x1) → (v1 < 5) → ((v2 + x3) ≤ x4) → Q (.inl none) (G, c))
    (ex5 : c 124 9 = x5)
    (s17 : (v1 < x1) → (5 ≤ v1) → -2147483648 ≤ v2 ∧ v2 < 2147483648)
    (s18 : (v1 < x1) → (5 ≤ v1) → -2147483648 ≤ x5 ∧ x5 < 2147483648)
    (k19 : (v1 < x1) → (5 ≤ v1) → (v2 ≤ x5) → T (d + 1) 52 26 [none, none, none, none] [] (G, c) Q)
    (m20 : (v1 < x1) → (5 ≤ v1) → (x5 < v2) → TM d 54 [aR 124, aI v2] (G, c) (fun r h' => T (d + 1) 52 26 [none, none, none, none] (r.toList ++ []) h' Q)) :
    T (d + 1) 52 0 [some (aR 124), some (aI v1), some (aI v2), none] [] (G, c) Q := by
  refine e_L (L' := [some (aR 124), some (aI v1), some (aI v2), none]) (st' := [aI v1]) (show decode (mC 52) 0 = .ok (.iload_n 1, 1) by decide +kernel) rfl rfl ?_
  refine e_L (L' := [some (aR 124), some (aI v1), some (aI v2), none]) (st' := [aR 124, aI v1]) (show decode (mC 52) 1 = .ok (.aload_n 0, 1) by decide +kernel) rfl (by show (if 124 = 0 then none else some (_, _)) = _; rw [if_neg (by decide)]) ?_
  refine e_getIx (show decode (mC 52) 2 = .ok (.getfield 44, 3) by decide +kernel) (show pl 5 44 = some (0, 5, 3, 0) by decide +kernel) (by decide) (sh_ok hG (by decide +kernel)) ex1 ?_
  refine e_ge2 (t := 13) (show decode (mC 52) 5 = .ok (.if_icmp .ge 8, 3) by decide +kernel) (by decide) s1 s2 (fun p1 => ?_) (fun p1 => ?_)
  · refine e_L (L' := [some (aR 124), some (aI v1), some (aI v2), none]) (st' := [aI v2]) (show decode (mC 52) 13 = .ok (.iload_n 2, 1) by decide +kernel) rfl rfl ?_
    refine e_L (L' := [some (aR 124), some (aI v1), some (aI v2), none]) (st' := [aR 124, aI v2]) (show decode (mC 52) 14 = .ok (.aload_n 0, 1) by decide +kernel) rfl (by show (if 124 = 0 then none else some (_, _)) = _; rw [if_neg (by decide)]) ?_
    refine e_getIx (show decode (mC 52) 15 = .ok (.getfield 69, 3) by decide +kernel) (show pl 5 69 = some (0, 5, 9, 0) by decide +kernel) (by decide) (sh_ok hG (by decide +kernel)) ex2 ?_
    refine e_le2 (t := 26) (show decode (mC 52) 18 = .ok (.if_icmp .le 8, 3) by decide +kernel) (by decide) (s4 p1) (s5 p1) (fun p2 => ?_) (fun p2 => ?_)
    · exact T_le hQ (leN (leN (leN (leS leE)))) (k6 p1 p2)
    · refine e_L (L' := [some (aR 124), some (aI v1), some (aI v2), none]) (st' := [aR 124]) (show decode (mC 52) 21 = .ok (.aload_n 0, 1) by decide +kernel) rfl (by show (if 124 = 0 then none else some (_, _)) = _; rw [if_neg (by decide)]) ?_
      refine e_L (L' := [some (aR 124), some (aI v1), some (aI v2), none]) (st' := [aI v2, aR 124]) (show decode (mC 52) 22 = .ok (.iload_n 2, 1) by decide +kernel) rfl rfl ?_
      exact e_V (as := [aR 124, aI v2]) (rest := []) (show decode (mC 52) 23 = .ok (.invokevirtual 131, 3) by decide +kernel) (by decide +kernel) (show (decide ((2 : Nat) = mA 54) && decide (54 < q_law)) = true by decide +kernel) rfl (show (0 : Nat) ≤ 8 by decide) (show (2 : Nat) ≤ mL 54 by decide +kernel) rfl (sh_ok hG (by decide +kernel)) (tm_le hQ (leN (leN (leN (leS leE)))) (m7 p1 p2))
  · refine e_L (L' := [some (aR 124), some (aI v1), some (aI v2), none]) (st' := [aI v1]) (show decode (mC 52) 8 = .ok (.iload_n 1, 1) by decide +kernel) rfl rfl ?_
    refine e_P (st' := [aI 5, aI v1]) (show decode (mC 52) 9 = .ok (.iconst 5, 1) by decide +kernel) rfl rfl rfl ?_
    refine e_lt2 (t := 27) (show decode (mC 52) 10 = .ok (.if_icmp .lt 17, 3) by decide +kernel) (by decide) s1 (by decide) (fun p2 => ?_) (fun p2 => ?_)
    · refine e_L (L' := [some (aR 124), some (aI v1), some (aI v2), none]) (st' := [aI v2]) (show decode (mC 52) 27 = .ok (.iload_n 2, 1) by decide +kernel) rfl rfl ?_
      refine e_L (L' := [some (aR 124), some (aI v1), some (aI v2), none]) (st' := [aR 124, aI v2]) (show decode (mC 52) 28 = .ok (.aload_n 0, 1) by decide +kernel) rfl (by show (if 124 = 0 then none else some (_, _)) = _; rw [if_neg (by decide)]) ?_
      refine e_getR (w := 128) (show decode (mC 52) 29 = .ok (.getfield 21, 3) by decide +kernel) (show pl 5 21 = some (0, 5, 6, 0) by decide +kernel) (by decide) (sh_ok hG (by decide +kernel)) (sh_rf hG (by decide +kernel)) ?_
      refine e_L (L' := [some (aR 124), some (aI v1), some (aI v2), none]) (st' := [aI v1, aR 128, aI v2]) (show decode (mC 52) 32 = .ok (.iload_n 1, 1) by decide +kernel) rfl rfl ?_
      refine e_ialdx (n := 6) (show decode (mC 52) 33 = .ok (.iaload, 1) by decide +kernel) (sh_ok hG (by decide +kernel)) (sh_ln hG (by decide +kernel)) (by decide) (s8 p1 p2) (s9 p1 p2) ex3 ?_
      refine e_P (st' := [aI (v2 + x3)]) (show decode (mC 52) 34 = .ok (.iadd, 1) by decide +kernel) rfl rfl rfl ?_
      refine e_L (L' := [some (aR 124), some (aI v1), some (aI v2), none]) (st' := [aR 124, aI (v2 + x3)]) (show decode (mC 52) 35 = .ok (.aload_n 0, 1) by decide +kernel) rfl (by show (if 124 = 0 then none else some (_, _)) = _; rw [if_neg (by decide)]) ?_
      refine e_getIx (show decode (mC 52) 36 = .ok (.getfield 69, 3) by decide +kernel) (show pl 5 69 = some (0, 5, 9, 0) by decide +kernel) (by decide) (sh_ok hG (by decide +kernel)) ex4 ?_
      refine e_gt2 (t := 43) (show decode (mC 52) 39 = .ok (.if_icmp .gt 4, 3) by decide +kernel) (by decide) (s12 p1 p2) (s13 p1 p2) (fun p3 => ?_) (fun p3 => ?_)
      · refine e_L (L' := [some (aR 124), some (aI v1), some (aI v2), none]) (st' := [aR 124]) (show decode (mC 52) 43 = .ok (.aload_n 0, 1) by decide +kernel) rfl (by show (if 124 = 0 then none else some (_, _)) = _; rw [if_neg (by decide)]) ?_
        refine e_L (L' := [some (aR 124), some (aI v1), some (aI v2), none]) (st' := [aI v1, aR 124]) (show decode (mC 52) 44 = .ok (.iload_n 1, 1) by decide +kernel) rfl rfl ?_
        refine e_P (st' := [aI (-1), aI v1, aR 124]) (show decode (mC 52) 45 = .ok (.iconst (-1), 1) by decide +kernel) rfl rfl rfl ?_
        refine e_L (L' := [some (aR 124), some (aI v1), some (aI v2), none]) (st' := [aI v2, aI (-1), aI v1, aR 124]) (show decode (mC 52) 46 = .ok (.iload_n 2, 1) by decide +kernel) rfl rfl ?_
        exact e_V (as := [aR 124, aI v1, aI (-1), aI v2]) (rest := []) (show decode (mC 52) 47 = .ok (.invokevirtual 134, 3) by decide +kernel) (by decide +kernel) (show (decide ((4 : Nat) = mA 269) && decide (269 < q_law)) = true by decide +kernel) rfl (show (0 : Nat) ≤ 8 by decide) (show (4 : Nat) ≤ mL 269 by decide +kernel) rfl (sh_ok hG (by decide +kernel)) (m14 p1 p2 p3)
      · exact e_vret (show decode (mC 52) 42 = .ok (.return_, 1) by decide +kernel) rfl (z15 p1 p2 p3)
    · refine e_L (L' := [some (aR 124), some (aI v1), some (aI v2), none]) (st' := [aI v2]) (show decode (mC 52) 13 = .ok (.iload_n 2, 1) by decide +kernel) rfl rfl ?_
      refine e_L (L' := [some (aR 124), some (aI v1), some (aI v2), none]) (st' := [aR 124, aI v2]) (show decode (mC 52) 14 = .ok (.aload_n 0, 1) by decide +kernel) rfl (by show (if 124 = 0 then none else some (_, _)) = _; rw [if_neg (by decide)]) ?_
      refine e_getIx (show decode (mC 52) 15 = .ok (.getfield 69, 3) by decide +kernel) (show pl 5 69 = some (0, 5, 9, 0) by decide +kernel) (by decide) (sh_ok hG (by decide +kernel)) ex5 ?_
      refine e_le2 (t := 26) (show decode (mC 52) 18 = .ok (.if_icmp .le 8, 3) by decide +kernel) (by decide) (s17 p1 p2) (s18 p1 p2) (fun p3 => ?_) (fun p3 => ?_)
      · exact T_le hQ (leN (leN (leN (leS leE)))) (k19 p1 p2 p3)
      · refine e_L (L' := [some (aR 124), some (aI v1), some (aI v2), none]) (st' := [aR 124]) (show decode (mC 52) 21 = .ok (.aload_n 0, 1) by decide +kernel) rfl (by show (if 124 = 0 then none else some (_, _)) = _; rw [if_neg (by decide)]) ?_
        refine e_L (L' := [some (aR 124), some (aI v1), some (aI v2), none]) (st' := [aI v2, aR 124]) (show decode (mC 52) 22 = .ok (.iload_n 2, 1) by decide +kernel) rfl rfl ?_
        exact e_V (as := [aR 124, aI v2]) (rest := []) (show decode (mC 52) 23 = .ok (.invokevirtual 131, 3) by decide +kernel) (by decide +kernel) (show (decide ((2 : Nat) = mA 54) && decide (54 < q_law)) = true by decide +kernel) rfl (show (0 : Nat) ≤ 8 by decide) (show (2 : Nat) ≤ mL 54 by decide +kernel) rfl (sh_ok hG (by decide +kernel)) (tm_le hQ (leN (leN (leN (leS leE)))) (m20 p1 p2 p3))
/-- SoulOffice$MostSearch.choose(II)V, from 26 -/
theorem b52_26 (hG : Shp G)
    (z0 : Q (.inl none) (G, c)) :
    T (d + 1) 52 26 [none, none, none, none] [] (G, c) Q := by
  exact e_vret (show decode (mC 52) 26 = .ok (.return_, 1) by decide +kernel) rfl z0
/-- SoulOffice$MostSearch.choose(II)V, from 50 -/
theorem b52_50 (hG : Shp G) {v1 v2 : Int}
    (k0 : T (d + 1) 52 52 [some (aR 124), some (aI v1), some (aI v2), some (aI 0)] [] (G, c) Q) :
    T (d + 1) 52 50 [some (aR 124), some (aI v1), some (aI v2), none] [] (G, c) Q := by
  refine e_P (st' := [aI 0]) (show decode (mC 52) 50 = .ok (.iconst 0, 1) by decide +kernel) rfl rfl rfl ?_
  refine e_L (L' := [some (aR 124), some (aI v1), some (aI v2), some (aI 0)]) (st' := []) (show decode (mC 52) 51 = .ok (.istore_n 3, 1) by decide +kernel) rfl rfl ?_
  exact k0
/-- SoulOffice$MostSearch.choose(II)V, from 52 -/
theorem b52_52 (hG : Shp G) {v1 v2 v3 x1 x2 x3 : Int}
    (ex1 : c 9 0 = x1)
    (s1 : -2147483648 ≤ v3 ∧ v3 < 2147483648)
    (s2 : -2147483648 ≤ x1 ∧ x1 < 2147483648)
    (z3 : (x1 ≤ v3) → Q (.inl none) (G, c))
    (s4 : (v3 < x1) → 0 ≤ v3)
    (s5 : (v3 < x1) → v3 < 6)
    (ex2 : c 129 v3 = x2)
    (s7 : (v3 < x1) → -2147483648 ≤ x2 ∧ x2 < 2147483648)
    (k8 : (v3 < x1) → (x2 ≤ 0) → T (d + 1) 52 52 [some (aR 124), some (aI v1), some (aI v2), some (aI (v3 + 1))] [] (G, c) Q)
    (s9 : (v3 < x1) → (0 < x2) → 0 ≤ v1)
    (s10 : (v3 < x1) → (0 < x2) → v1 < 5)
    (ex3 : c 125 v1 = x3)
    (m12 : (v3 < x1) → (0 < x2) → TM d 72 [aR 9, aI x3, aI v3] (G, c) (fun r h' => T (d + 1) 52 86 [some (aR 124), some (aI v1), some (aI v2), some (aI v3)] (r.toList ++ []) h' Q)) :
    T (d + 1) 52 52 [some (aR 124), some (aI v1), some (aI v2), some (aI v3)] [] (G, c) Q := by
  refine e_L (L' := [some (aR 124), some (aI v1), some (aI v2), some (aI v3)]) (st' := [aI v3]) (show decode (mC 52) 52 = .ok (.iload_n 3, 1) by decide +kernel) rfl rfl ?_
  refine e_L (L' := [some (aR 124), some (aI v1), some (aI v2), some (aI v3)]) (st' := [aR 124, aI v3]) (show decode (mC 52) 53 = .ok (.aload_n 0, 1) by decide +kernel) rfl (by show (if 124 = 0 then none else some (_, _)) = _; rw [if_neg (by decide)]) ?_
  refine e_getR (w := 9) (show decode (mC 52) 54 = .ok (.getfield 33, 3) by decide +kernel) (show pl 5 33 = some (0, 5, 0, 0) by decide +kernel) (by decide) (sh_ok hG (by decide +kernel)) (sh_rf hG (by decide +kernel)) ?_
  refine e_getIx (show decode (mC 52) 57 = .ok (.getfield 106, 3) by decide +kernel) (show pl 5 106 = some (0, 8, 0, 0) by decide +kernel) (by decide) (sh_ok hG (by decide +kernel)) ex1 ?_
  refine e_ge2 (t := 129) (show decode (mC 52) 60 = .ok (.if_icmp .ge 69, 3) by decide +kernel) (by decide) s1 s2 (fun p1 => ?_) (fun p1 => ?_)
  · exact e_vret (show decode (mC 52) 129 = .ok (.return_, 1) by decide +kernel) rfl (z3 p1)
  · refine e_L (L' := [some (aR 124), some (aI v1), some (aI v2), some (aI v3)]) (st' := [aR 124]) (show decode (mC 52) 63 = .ok (.aload_n 0, 1) by decide +kernel) rfl (by show (if 124 = 0 then none else some (_, _)) = _; rw [if_neg (by decide)]) ?_
    refine e_getR (w := 129) (show decode (mC 52) 64 = .ok (.getfield 24, 3) by decide +kernel) (show pl 5 24 = some (0, 5, 7, 0) by decide +kernel) (by decide) (sh_ok hG (by decide +kernel)) (sh_rf hG (by decide +kernel)) ?_
    refine e_L (L' := [some (aR 124), some (aI v1), some (aI v2), some (aI v3)]) (st' := [aI v3, aR 129]) (show decode (mC 52) 67 = .ok (.iload_n 3, 1) by decide +kernel) rfl rfl ?_
    refine e_ialdx (n := 6) (show decode (mC 52) 68 = .ok (.iaload, 1) by decide +kernel) (sh_ok hG (by decide +kernel)) (sh_ln hG (by decide +kernel)) (by decide) (s4 p1) (s5 p1) ex2 ?_
    refine e_le1 (t := 123) (show decode (mC 52) 69 = .ok (.ifCond .le 54, 3) by decide +kernel) (by decide) (s7 p1) (fun p2 => ?_) (fun p2 => ?_)
    · refine e_L (L' := [some (aR 124), some (aI v1), some (aI v2), some (aI (v3 + 1))]) (st' := []) (show decode (mC 52) 123 = .ok (.iinc 3 1, 3) by decide +kernel) rfl rfl ?_
      refine e_go (t := 52) (show decode (mC 52) 126 = .ok (.goto (-74), 3) by decide +kernel) (by decide) ?_
      exact (k8 p1 p2)
    · refine e_L (L' := [some (aR 124), some (aI v1), some (aI v2), some (aI v3)]) (st' := [aR 124]) (show decode (mC 52) 72 = .ok (.aload_n 0, 1) by decide +kernel) rfl (by show (if 124 = 0 then none else some (_, _)) = _; rw [if_neg (by decide)]) ?_
      refine e_getR (w := 9) (show decode (mC 52) 73 = .ok (.getfield 33, 3) by decide +kernel) (show pl 5 33 = some (0, 5, 0, 0) by decide +kernel) (by decide) (sh_ok hG (by decide +kernel)) (sh_rf hG (by decide +kernel)) ?_
      refine e_L (L' := [some (aR 124), some (aI v1), some (aI v2), some (aI v3)]) (st' := [aR 124, aR 9]) (show decode (mC 52) 76 = .ok (.aload_n 0, 1) by decide +kernel) rfl (by show (if 124 = 0 then none else some (_, _)) = _; rw [if_neg (by decide)]) ?_
      refine e_getR (w := 125) (show decode (mC 52) 77 = .ok (.getfield 9, 3) by decide +kernel) (show pl 5 9 = some (0, 5, 2, 0) by decide +kernel) (by decide) (sh_ok hG (by decide +kernel)) (sh_rf hG (by decide +kernel)) ?_
      refine e_L (L' := [some (aR 124), some (aI v1), some (aI v2), some (aI v3)]) (st' := [aI v1, aR 125, aR 9]) (show decode (mC 52) 80 = .ok (.iload_n 1, 1) by decide +kernel) rfl rfl ?_
      refine e_ialdx (n := 5) (show decode (mC 52) 81 = .ok (.iaload, 1) by decide +kernel) (sh_ok hG (by decide +kernel)) (sh_ln hG (by decide +kernel)) (by decide) (s9 p1 p2) (s10 p1 p2) ex3 ?_
      refine e_L (L' := [some (aR 124), some (aI v1), some (aI v2), some (aI v3)]) (st' := [aI v3, aI x3, aR 9]) (show decode (mC 52) 82 = .ok (.iload_n 3, 1) by decide +kernel) rfl rfl ?_
      exact e_V (as := [aR 9, aI x3, aI v3]) (rest := []) (show decode (mC 52) 83 = .ok (.invokevirtual 138, 3) by decide +kernel) (by decide +kernel) (show (decide ((3 : Nat) = mA 72) && decide (72 < q_law)) = true by decide +kernel) rfl (show (0 : Nat) ≤ 8 by decide) (show (3 : Nat) ≤ mL 72 by decide +kernel) rfl (sh_ok hG (by decide +kernel)) (m12 p1 p2)
/-- SoulOffice$MostSearch.choose(II)V, from 86 -/
theorem b52_86 (hG : Shp G) {v1 v2 v3 u0 x1 : Int}
    (s0 : -2147483648 ≤ u0 ∧ u0 < 2147483648)
    (k1 : (u0 = 0) → T (d + 1) 52 52 [some (aR 124), some (aI v1), some (aI v2), some (aI (v3 + 1))] [] (G, c) Q)
    (s2 : (¬ u0 = 0) → 0 ≤ v3)
    (s3 : (¬ u0 = 0) → v3 < 6)
    (ex1 : c 129 v3 = x1)
    (m5 : (¬ u0 = 0) → TM d 53 [aR 124, aI v1, aI v3] (G, (q_up c 129 v3 (x1 - 1))) (fun r h' => T (d + 1) 52 109 [some (aR 124), some (aI v1), some (aI v2), some (aI v3)] (r.toList ++ [aI v2, aI v3, aI v1, aR 124]) h' Q)) :
    T (d + 1) 52 86 [some (aR 124), some (aI v1), some (aI v2), some (aI v3)] [aI u0] (G, c) Q := by
  refine e_eq1 (t := 123) (show decode (mC 52) 86 = .ok (.ifCond .eq 37, 3) by decide +kernel) (by decide) s0 (fun p1 => ?_) (fun p1 => ?_)
  · refine e_L (L' := [some (aR 124), some (aI v1), some (aI v2), some (aI (v3 + 1))]) (st' := []) (show decode (mC 52) 123 = .ok (.iinc 3 1, 3) by decide +kernel) rfl rfl ?_
    refine e_go (t := 52) (show decode (mC 52) 126 = .ok (.goto (-74), 3) by decide +kernel) (by decide) ?_
    exact (k1 p1)
  · refine e_L (L' := [some (aR 124), some (aI v1), some (aI v2), some (aI v3)]) (st' := [aR 124]) (show decode (mC 52) 89 = .ok (.aload_n 0, 1) by decide +kernel) rfl (by show (if 124 = 0 then none else some (_, _)) = _; rw [if_neg (by decide)]) ?_
    refine e_getR (w := 129) (show decode (mC 52) 90 = .ok (.getfield 24, 3) by decide +kernel) (show pl 5 24 = some (0, 5, 7, 0) by decide +kernel) (by decide) (sh_ok hG (by decide +kernel)) (sh_rf hG (by decide +kernel)) ?_
    refine e_L (L' := [some (aR 124), some (aI v1), some (aI v2), some (aI v3)]) (st' := [aI v3, aR 129]) (show decode (mC 52) 93 = .ok (.iload_n 3, 1) by decide +kernel) rfl rfl ?_
    refine e_P (st' := [aI v3, aR 129, aI v3, aR 129]) (show decode (mC 52) 94 = .ok (.dup2, 1) by decide +kernel) rfl rfl rfl ?_
    refine e_ialdx (n := 6) (show decode (mC 52) 95 = .ok (.iaload, 1) by decide +kernel) (sh_ok hG (by decide +kernel)) (sh_ln hG (by decide +kernel)) (by decide) (s2 p1) (s3 p1) ex1 ?_
    refine e_P (st' := [aI 1, aI x1, aI v3, aR 129]) (show decode (mC 52) 96 = .ok (.iconst 1, 1) by decide +kernel) rfl rfl rfl ?_
    refine e_P (st' := [aI (x1 - 1), aI v3, aR 129]) (show decode (mC 52) 97 = .ok (.isub, 1) by decide +kernel) rfl rfl rfl ?_
    refine e_iast (n := 6) (show decode (mC 52) 98 = .ok (.iastore, 1) by decide +kernel) (sh_ok hG (by decide +kernel)) (sh_ln hG (by decide +kernel)) (by decide) (s2 p1) (s3 p1) ?_
    refine e_L (L' := [some (aR 124), some (aI v1), some (aI v2), some (aI v3)]) (st' := [aR 124]) (show decode (mC 52) 99 = .ok (.aload_n 0, 1) by decide +kernel) rfl (by show (if 124 = 0 then none else some (_, _)) = _; rw [if_neg (by decide)]) ?_
    refine e_L (L' := [some (aR 124), some (aI v1), some (aI v2), some (aI v3)]) (st' := [aI v1, aR 124]) (show decode (mC 52) 100 = .ok (.iload_n 1, 1) by decide +kernel) rfl rfl ?_
    refine e_L (L' := [some (aR 124), some (aI v1), some (aI v2), some (aI v3)]) (st' := [aI v3, aI v1, aR 124]) (show decode (mC 52) 101 = .ok (.iload_n 3, 1) by decide +kernel) rfl rfl ?_
    refine e_L (L' := [some (aR 124), some (aI v1), some (aI v2), some (aI v3)]) (st' := [aI v2, aI v3, aI v1, aR 124]) (show decode (mC 52) 102 = .ok (.iload_n 2, 1) by decide +kernel) rfl rfl ?_
    refine e_L (L' := [some (aR 124), some (aI v1), some (aI v2), some (aI v3)]) (st' := [aR 124, aI v2, aI v3, aI v1, aR 124]) (show decode (mC 52) 103 = .ok (.aload_n 0, 1) by decide +kernel) rfl (by show (if 124 = 0 then none else some (_, _)) = _; rw [if_neg (by decide)]) ?_
    refine e_L (L' := [some (aR 124), some (aI v1), some (aI v2), some (aI v3)]) (st' := [aI v1, aR 124, aI v2, aI v3, aI v1, aR 124]) (show decode (mC 52) 104 = .ok (.iload_n 1, 1) by decide +kernel) rfl rfl ?_
    refine e_L (L' := [some (aR 124), some (aI v1), some (aI v2), some (aI v3)]) (st' := [aI v3, aI v1, aR 124, aI v2, aI v3, aI v1, aR 124]) (show decode (mC 52) 105 = .ok (.iload_n 3, 1) by decide +kernel) rfl rfl ?_
    exact e_V (as := [aR 124, aI v1, aI v3]) (rest := [aI v2, aI v3, aI v1, aR 124]) (show decode (mC 52) 106 = .ok (.invokevirtual 142, 3) by decide +kernel) (by decide +kernel) (show (decide ((3 : Nat) = mA 53) && decide (53 < q_law)) = true by decide +kernel) rfl (show (4 : Nat) ≤ 8 by decide) (show (3 : Nat) ≤ mL 53 by decide +kernel) rfl (sh_ok hG (by decide +kernel)) (m5 p1)
/-- SoulOffice$MostSearch.choose(II)V, from 109 -/
theorem b52_109 (hG : Shp G) {v1 v2 v3 u1 u2 u3 u4 : Int}
    (m0 : TM d 269 [aR 124, aI u1, aI u2, aI (u3 + u4)] (G, c) (fun r h' => T (d + 1) 52 113 [some (aR 124), some (aI v1), some (aI v2), some (aI v3)] (r.toList ++ []) h' Q)) :
    T (d + 1) 52 109 [some (aR 124), some (aI v1), some (aI v2), some (aI v3)] [aI u4, aI u3, aI u2, aI u1, aR 124] (G, c) Q := by
  refine e_P (st' := [aI (u3 + u4), aI u2, aI u1, aR 124]) (show decode (mC 52) 109 = .ok (.iadd, 1) by decide +kernel) rfl rfl rfl ?_
  exact e_V (as := [aR 124, aI u1, aI u2, aI (u3 + u4)]) (rest := []) (show decode (mC 52) 110 = .ok (.invokevirtual 134, 3) by decide +kernel) (by decide +kernel) (show (decide ((4 : Nat) = mA 269) && decide (269 < q_law)) = true by decide +kernel) rfl (show (0 : Nat) ≤ 8 by decide) (show (4 : Nat) ≤ mL 269 by decide +kernel) rfl (sh_ok hG (by decide +kernel)) m0
/-- SoulOffice$MostSearch.choose(II)V, from 113 -/
theorem b52_113 (hG : Shp G) {v1 v2 v3 x1 : Int}
    (s0 : 0 ≤ v3)
    (s1 : v3 < 6)
    (ex1 : c 129 v3 = x1)
    (k3 : T (d + 1) 52 52 [some (aR 124), some (aI v1), some (aI v2), some (aI (v3 + 1))] [] (G, (q_up c 129 v3 (x1 + 1))) Q) :
    T (d + 1) 52 113 [some (aR 124), some (aI v1), some (aI v2), some (aI v3)] [] (G, c) Q := by
  refine e_L (L' := [some (aR 124), some (aI v1), some (aI v2), some (aI v3)]) (st' := [aR 124]) (show decode (mC 52) 113 = .ok (.aload_n 0, 1) by decide +kernel) rfl (by show (if 124 = 0 then none else some (_, _)) = _; rw [if_neg (by decide)]) ?_
  refine e_getR (w := 129) (show decode (mC 52) 114 = .ok (.getfield 24, 3) by decide +kernel) (show pl 5 24 = some (0, 5, 7, 0) by decide +kernel) (by decide) (sh_ok hG (by decide +kernel)) (sh_rf hG (by decide +kernel)) ?_
  refine e_L (L' := [some (aR 124), some (aI v1), some (aI v2), some (aI v3)]) (st' := [aI v3, aR 129]) (show decode (mC 52) 117 = .ok (.iload_n 3, 1) by decide +kernel) rfl rfl ?_
  refine e_P (st' := [aI v3, aR 129, aI v3, aR 129]) (show decode (mC 52) 118 = .ok (.dup2, 1) by decide +kernel) rfl rfl rfl ?_
  refine e_ialdx (n := 6) (show decode (mC 52) 119 = .ok (.iaload, 1) by decide +kernel) (sh_ok hG (by decide +kernel)) (sh_ln hG (by decide +kernel)) (by decide) s0 s1 ex1 ?_
  refine e_P (st' := [aI 1, aI x1, aI v3, aR 129]) (show decode (mC 52) 120 = .ok (.iconst 1, 1) by decide +kernel) rfl rfl rfl ?_
  refine e_P (st' := [aI (x1 + 1), aI v3, aR 129]) (show decode (mC 52) 121 = .ok (.iadd, 1) by decide +kernel) rfl rfl rfl ?_
  refine e_iast (n := 6) (show decode (mC 52) 122 = .ok (.iastore, 1) by decide +kernel) (sh_ok hG (by decide +kernel)) (sh_ln hG (by decide +kernel)) (by decide) s0 s1 ?_
  refine e_L (L' := [some (aR 124), some (aI v1), some (aI v2), some (aI (v3 + 1))]) (st' := []) (show decode (mC 52) 123 = .ok (.iinc 3 1, 3) by decide +kernel) rfl rfl ?_
  refine e_go (t := 52) (show decode (mC 52) 126 = .ok (.goto (-74), 3) by decide +kernel) (by decide) ?_
  exact k3
/-- SoulOffice$MostSearch.addedBy(II)I, from 0 -/
theorem b53_0 (hG : Shp G) {v1 v2 x1 : Int}
    (s0 : 0 ≤ ((v1 * 6) + v2))
    (s1 : ((v1 * 6) + v2) < 30)
    (ex1 : c 126 ((v1 * 6) + v2) = x1)
    (k3 : T (d + 1) 53 15 [some (aR 124), some (aI v1), some (aI v2), some (aI x1), some (aI 0)] [] (G, c) Q) :
    T (d + 1) 53 0 [some (aR 124), some (aI v1), some (aI v2), none, none] [] (G, c) Q := by
  refine e_L (L' := [some (aR 124), some (aI v1), some (aI v2), none, none]) (st' := [aR 124]) (show decode (mC 53) 0 = .ok (.aload_n 0, 1) by decide +kernel) rfl (by show (if 124 = 0 then none else some (_, _)) = _; rw [if_neg (by decide)]) ?_
  refine e_getR (w := 126) (show decode (mC 53) 1 = .ok (.getfield 15, 3) by decide +kernel) (show pl 5 15 = some (0, 5, 4, 0) by decide +kernel) (by decide) (sh_ok hG (by decide +kernel)) (sh_rf hG (by decide +kernel)) ?_
  refine e_L (L' := [some (aR 124), some (aI v1), some (aI v2), none, none]) (st' := [aI v1, aR 126]) (show decode (mC 53) 4 = .ok (.iload_n 1, 1) by decide +kernel) rfl rfl ?_
  refine e_P (st' := [aI 6, aI v1, aR 126]) (show decode (mC 53) 5 = .ok (.bipush 6, 2) by decide +kernel) rfl rfl rfl ?_
  refine e_P (st' := [aI (v1 * 6), aR 126]) (show decode (mC 53) 7 = .ok (.imul, 1) by decide +kernel) rfl rfl rfl ?_
  refine e_L (L' := [some (aR 124), some (aI v1), some (aI v2), none, none]) (st' := [aI v2, aI (v1 * 6), aR 126]) (show decode (mC 53) 8 = .ok (.iload_n 2, 1) by decide +kernel) rfl rfl ?_
  refine e_P (st' := [aI ((v1 * 6) + v2), aR 126]) (show decode (mC 53) 9 = .ok (.iadd, 1) by decide +kernel) rfl rfl rfl ?_
  refine e_ialdx (n := 30) (show decode (mC 53) 10 = .ok (.iaload, 1) by decide +kernel) (sh_ok hG (by decide +kernel)) (sh_ln hG (by decide +kernel)) (by decide) s0 s1 ex1 ?_
  refine e_L (L' := [some (aR 124), some (aI v1), some (aI v2), some (aI x1), none]) (st' := []) (show decode (mC 53) 11 = .ok (.istore_n 3, 1) by decide +kernel) rfl rfl ?_
  refine e_P (st' := [aI 0]) (show decode (mC 53) 12 = .ok (.iconst 0, 1) by decide +kernel) rfl rfl rfl ?_
  refine e_L (L' := [some (aR 124), some (aI v1), some (aI v2), some (aI x1), some (aI 0)]) (st' := []) (show decode (mC 53) 13 = .ok (.istore 4, 2) by decide +kernel) rfl rfl ?_
  exact k3
/-- SoulOffice$MostSearch.addedBy(II)I, from 15 -/
theorem b53_15 (hG : Shp G) {v1 v2 v3 v4 x1 x2 : Int} (hQ : ∀ o o' h', q_eqo o o' → Q o h' → Q o' h')
    (s0 : -2147483648 ≤ v4 ∧ v4 < 2147483648)
    (s1 : -2147483648 ≤ v1 ∧ v1 < 2147483648)
    (z2 : (v1 ≤ v4) → Q (.inl (some (aI v3))) (G, c))
    (s3 : (v4 < v1) → 0 ≤ v4)
    (s4 : (v4 < v1) → v4 < 5)
    (ex1 : c 130 v4 = x1)
    (s6 : (v4 < v1) → -2147483648 ≤ x1 ∧ x1 < 2147483648)
    (k7 : (v4 < v1) → (x1 = (-1)) → T (d + 1) 53 15 [some (aR 124), some (aI v1), some (aI v2), some (aI v3), some (aI (v4 + 1))] [] (G, c) Q)
    (ex2 : c 130 v4 = x2)
    (m9 : (v4 < v1) → (¬ x1 = (-1)) → TM d 49 [aI v4, aI v1, aI x2, aI v2] (G, c) (fun r h' => T (d + 1) 53 51 [some (aR 124), some (aI v1), some (aI v2), none, some (aI v4)] (r.toList ++ [aR 127, aI v3]) h' Q)) :
    T (d + 1) 53 15 [some (aR 124), some (aI v1), some (aI v2), some (aI v3), some (aI v4)] [] (G, c) Q := by
  refine e_L (L' := [some (aR 124), some (aI v1), some (aI v2), some (aI v3), some (aI v4)]) (st' := [aI v4]) (show decode (mC 53) 15 = .ok (.iload 4, 2) by decide +kernel) rfl rfl ?_
  refine e_L (L' := [some (aR 124), some (aI v1), some (aI v2), some (aI v3), some (aI v4)]) (st' := [aI v1, aI v4]) (show decode (mC 53) 17 = .ok (.iload_n 1, 1) by decide +kernel) rfl rfl ?_
  refine e_ge2 (t := 60) (show decode (mC 53) 18 = .ok (.if_icmp .ge 42, 3) by decide +kernel) (by decide) s0 s1 (fun p1 => ?_) (fun p1 => ?_)
  · refine e_L (L' := [some (aR 124), some (aI v1), some (aI v2), some (aI v3), some (aI v4)]) (st' := [aI v3]) (show decode (mC 53) 60 = .ok (.iload_n 3, 1) by decide +kernel) rfl rfl ?_
    exact e_iret (show decode (mC 53) 61 = .ok (.ireturn, 1) by decide +kernel) rfl (z2 p1)
  · refine e_L (L' := [some (aR 124), some (aI v1), some (aI v2), some (aI v3), some (aI v4)]) (st' := [aR 124]) (show decode (mC 53) 21 = .ok (.aload_n 0, 1) by decide +kernel) rfl (by show (if 124 = 0 then none else some (_, _)) = _; rw [if_neg (by decide)]) ?_
    refine e_getR (w := 130) (show decode (mC 53) 22 = .ok (.getfield 27, 3) by decide +kernel) (show pl 5 27 = some (0, 5, 8, 0) by decide +kernel) (by decide) (sh_ok hG (by decide +kernel)) (sh_rf hG (by decide +kernel)) ?_
    refine e_L (L' := [some (aR 124), some (aI v1), some (aI v2), some (aI v3), some (aI v4)]) (st' := [aI v4, aR 130]) (show decode (mC 53) 25 = .ok (.iload 4, 2) by decide +kernel) rfl rfl ?_
    refine e_ialdx (n := 5) (show decode (mC 53) 27 = .ok (.iaload, 1) by decide +kernel) (sh_ok hG (by decide +kernel)) (sh_ln hG (by decide +kernel)) (by decide) (s3 p1) (s4 p1) ex1 ?_
    refine e_P (st' := [aI (-1), aI x1]) (show decode (mC 53) 28 = .ok (.iconst (-1), 1) by decide +kernel) rfl rfl rfl ?_
    refine e_eq2 (t := 54) (show decode (mC 53) 29 = .ok (.if_icmp .eq 25, 3) by decide +kernel) (by decide) (s6 p1) (by decide) (fun p2 => ?_) (fun p2 => ?_)
    · refine e_L (L' := [some (aR 124), some (aI v1), some (aI v2), some (aI v3), some (aI (v4 + 1))]) (st' := []) (show decode (mC 53) 54 = .ok (.iinc 4 1, 3) by decide +kernel) rfl rfl ?_
      refine e_go (t := 15) (show decode (mC 53) 57 = .ok (.goto (-42), 3) by decide +kernel) (by decide) ?_
      exact (k7 p1 p2)
    · refine e_L (L' := [some (aR 124), some (aI v1), some (aI v2), some (aI v3), some (aI v4)]) (st' := [aI v3]) (show decode (mC 53) 32 = .ok (.iload_n 3, 1) by decide +kernel) rfl rfl ?_
      refine e_L (L' := [some (aR 124), some (aI v1), some (aI v2), some (aI v3), some (aI v4)]) (st' := [aR 124, aI v3]) (show decode (mC 53) 33 = .ok (.aload_n 0, 1) by decide +kernel) rfl (by show (if 124 = 0 then none else some (_, _)) = _; rw [if_neg (by decide)]) ?_
      refine e_getR (w := 127) (show decode (mC 53) 34 = .ok (.getfield 18, 3) by decide +kernel) (show pl 5 18 = some (0, 5, 5, 0) by decide +kernel) (by decide) (sh_ok hG (by decide +kernel)) (sh_rf hG (by decide +kernel)) ?_
      refine e_L (L' := [some (aR 124), some (aI v1), some (aI v2), some (aI v3), some (aI v4)]) (st' := [aI v4, aR 127, aI v3]) (show decode (mC 53) 37 = .ok (.iload 4, 2) by decide +kernel) rfl rfl ?_
      refine e_L (L' := [some (aR 124), some (aI v1), some (aI v2), some (aI v3), some (aI v4)]) (st' := [aI v1, aI v4, aR 127, aI v3]) (show decode (mC 53) 39 = .ok (.iload_n 1, 1) by decide +kernel) rfl rfl ?_
      refine e_L (L' := [some (aR 124), some (aI v1), some (aI v2), some (aI v3), some (aI v4)]) (st' := [aR 124, aI v1, aI v4, aR 127, aI v3]) (show decode (mC 53) 40 = .ok (.aload_n 0, 1) by decide +kernel) rfl (by show (if 124 = 0 then none else some (_, _)) = _; rw [if_neg (by decide)]) ?_
      refine e_getR (w := 130) (show decode (mC 53) 41 = .ok (.getfield 27, 3) by decide +kernel) (show pl 5 27 = some (0, 5, 8, 0) by decide +kernel) (by decide) (sh_ok hG (by decide +kernel)) (sh_rf hG (by decide +kernel)) ?_
      refine e_L (L' := [some (aR 124), some (aI v1), some (aI v2), some (aI v3), some (aI v4)]) (st' := [aI v4, aR 130, aI v1, aI v4, aR 127, aI v3]) (show decode (mC 53) 44 = .ok (.iload 4, 2) by decide +kernel) rfl rfl ?_
      refine e_ialdx (n := 5) (show decode (mC 53) 46 = .ok (.iaload, 1) by decide +kernel) (sh_ok hG (by decide +kernel)) (sh_ln hG (by decide +kernel)) (by decide) (s3 p1) (s4 p1) ex2 ?_
      refine e_L (L' := [some (aR 124), some (aI v1), some (aI v2), some (aI v3), some (aI v4)]) (st' := [aI v2, aI x2, aI v1, aI v4, aR 127, aI v3]) (show decode (mC 53) 47 = .ok (.iload_n 2, 1) by decide +kernel) rfl rfl ?_
      exact e_S (as := [aI v4, aI v1, aI x2, aI v2]) (rest := [aR 127, aI v3]) (show decode (mC 53) 48 = .ok (.invokestatic 115, 3) by decide +kernel) (by decide +kernel) (show (decide ((4 : Nat) = mA 49) && decide (49 < q_law)) = true by decide +kernel) rfl (show (2 : Nat) ≤ 8 by decide) (show (4 : Nat) ≤ mL 49 by decide +kernel) (tm_le hQ (leS (leS (leS (leN (leS leE))))) (m9 p1 p2))
/-- SoulOffice$MostSearch.addedBy(II)I, from 51 -/
theorem b53_51 (hG : Shp G) {v1 v2 v4 u0 u2 x1 : Int}
    (s0 : 0 ≤ u2)
    (s1 : u2 < 900)
    (ex1 : c 127 u2 = x1)
    (k3 : T (d + 1) 53 15 [some (aR 124), some (aI v1), some (aI v2), some (aI (u0 + x1)), some (aI (v4 + 1))] [] (G, c) Q) :
    T (d + 1) 53 51 [some (aR 124), some (aI v1), some (aI v2), none, some (aI v4)] [aI u2, aR 127, aI u0] (G, c) Q := by
  refine e_ialdx (n := 900) (show decode (mC 53) 51 = .ok (.iaload, 1) by decide +kernel) (sh_ok hG (by decide +kernel)) (sh_ln hG (by decide +kernel)) (by decide) s0 s1 ex1 ?_
  refine e_P (st' := [aI (u0 + x1)]) (show decode (mC 53) 52 = .ok (.iadd, 1) by decide +kernel) rfl rfl rfl ?_
  refine e_L (L' := [some (aR 124), some (aI v1), some (aI v2), some (aI (u0 + x1)), some (aI v4)]) (st' := []) (show decode (mC 53) 53 = .ok (.istore_n 3, 1) by decide +kernel) rfl rfl ?_
  refine e_L (L' := [some (aR 124), some (aI v1), some (aI v2), some (aI (u0 + x1)), some (aI (v4 + 1))]) (st' := []) (show decode (mC 53) 54 = .ok (.iinc 4 1, 3) by decide +kernel) rfl rfl ?_
  refine e_go (t := 15) (show decode (mC 53) 57 = .ok (.goto (-42), 3) by decide +kernel) (by decide) ?_
  exact k3
/-- SoulOffice$MostSearch.keepWay(I)V, from 0 -/
theorem b54_0 (hG : Shp G) {v1 : Int} (hQ : ∀ o o' h', q_eqo o o' → Q o h' → Q o' h')
    (k0 : T d 54 7 [some (aR 124), none, some (aI 0)] [] (G, (q_up c 124 9 v1)) Q) :
    T d 54 0 [some (aR 124), some (aI v1), none] [] (G, c) Q := by
  refine e_L (L' := [some (aR 124), some (aI v1), none]) (st' := [aR 124]) (show decode (mC 54) 0 = .ok (.aload_n 0, 1) by decide +kernel) rfl (by show (if 124 = 0 then none else some (_, _)) = _; rw [if_neg (by decide)]) ?_
  refine e_L (L' := [some (aR 124), some (aI v1), none]) (st' := [aI v1, aR 124]) (show decode (mC 54) 1 = .ok (.iload_n 1, 1) by decide +kernel) rfl rfl ?_
  refine e_putI (show decode (mC 54) 2 = .ok (.putfield 69, 3) by decide +kernel) (show pl 5 69 = some (0, 5, 9, 0) by decide +kernel) (by decide) (sh_ok hG (by decide +kernel)) ?_
  refine e_P (st' := [aI 0]) (show decode (mC 54) 5 = .ok (.iconst 0, 1) by decide +kernel) rfl rfl rfl ?_
  refine e_L (L' := [some (aR 124), some (aI v1), some (aI 0)]) (st' := []) (show decode (mC 54) 6 = .ok (.istore_n 2, 1) by decide +kernel) rfl rfl ?_
  exact T_le hQ (leS (leN (leS leE))) k0
/-- SoulOffice$MostSearch.keepWay(I)V, from 7 -/
theorem b54_7 (hG : Shp G) {v2 x1 x2 x3 : Int}
    (ex1 : c 124 3 = x1)
    (s1 : -2147483648 ≤ v2 ∧ v2 < 2147483648)
    (s2 : -2147483648 ≤ x1 ∧ x1 < 2147483648)
    (z3 : (x1 ≤ v2) → Q (.inl none) (G, c))
    (z4 : (v2 < x1) → (5 ≤ v2) → Q (.inl none) (G, c))
    (s5 : (v2 < x1) → (v2 < 5) → 0 ≤ v2)
    (s6 : (v2 < x1) → (v2 < 5) → v2 < 5)
    (ex2 : c 125 v2 = x2)
    (ex3 : c 130 v2 = x3)
    (s9 : (v2 < x1) → (v2 < 5) → 0 ≤ x2)
    (s10 : (v2 < x1) → (v2 < 5) → x2 < 8)
    (k11 : (v2 < x1) → (v2 < 5) → T d 54 7 [some (aR 124), none, some (aI (v2 + 1))] [] (G, (q_up c 131 x2 x3)) Q) :
    T d 54 7 [some (aR 124), none, some (aI v2)] [] (G, c) Q := by
  refine e_L (L' := [some (aR 124), none, some (aI v2)]) (st' := [aI v2]) (show decode (mC 54) 7 = .ok (.iload_n 2, 1) by decide +kernel) rfl rfl ?_
  refine e_L (L' := [some (aR 124), none, some (aI v2)]) (st' := [aR 124, aI v2]) (show decode (mC 54) 8 = .ok (.aload_n 0, 1) by decide +kernel) rfl (by show (if 124 = 0 then none else some (_, _)) = _; rw [if_neg (by decide)]) ?_
  refine e_getIx (show decode (mC 54) 9 = .ok (.getfield 44, 3) by decide +kernel) (show pl 5 44 = some (0, 5, 3, 0) by decide +kernel) (by decide) (sh_ok hG (by decide +kernel)) ex1 ?_
  refine e_ge2 (t := 43) (show decode (mC 54) 12 = .ok (.if_icmp .ge 31, 3) by decide +kernel) (by decide) s1 s2 (fun p1 => ?_) (fun p1 => ?_)
  · exact e_vret (show decode (mC 54) 43 = .ok (.return_, 1) by decide +kernel) rfl (z3 p1)
  · refine e_L (L' := [some (aR 124), none, some (aI v2)]) (st' := [aI v2]) (show decode (mC 54) 15 = .ok (.iload_n 2, 1) by decide +kernel) rfl rfl ?_
    refine e_P (st' := [aI 5, aI v2]) (show decode (mC 54) 16 = .ok (.iconst 5, 1) by decide +kernel) rfl rfl rfl ?_
    refine e_ge2 (t := 43) (show decode (mC 54) 17 = .ok (.if_icmp .ge 26, 3) by decide +kernel) (by decide) s1 (by decide) (fun p2 => ?_) (fun p2 => ?_)
    · exact e_vret (show decode (mC 54) 43 = .ok (.return_, 1) by decide +kernel) rfl (z4 p1 p2)
    · refine e_L (L' := [some (aR 124), none, some (aI v2)]) (st' := [aR 124]) (show decode (mC 54) 20 = .ok (.aload_n 0, 1) by decide +kernel) rfl (by show (if 124 = 0 then none else some (_, _)) = _; rw [if_neg (by decide)]) ?_
      refine e_getR (w := 131) (show decode (mC 54) 21 = .ok (.getfield 30, 3) by decide +kernel) (show pl 5 30 = some (0, 5, 10, 0) by decide +kernel) (by decide) (sh_ok hG (by decide +kernel)) (sh_rf hG (by decide +kernel)) ?_
      refine e_L (L' := [some (aR 124), none, some (aI v2)]) (st' := [aR 124, aR 131]) (show decode (mC 54) 24 = .ok (.aload_n 0, 1) by decide +kernel) rfl (by show (if 124 = 0 then none else some (_, _)) = _; rw [if_neg (by decide)]) ?_
      refine e_getR (w := 125) (show decode (mC 54) 25 = .ok (.getfield 9, 3) by decide +kernel) (show pl 5 9 = some (0, 5, 2, 0) by decide +kernel) (by decide) (sh_ok hG (by decide +kernel)) (sh_rf hG (by decide +kernel)) ?_
      refine e_L (L' := [some (aR 124), none, some (aI v2)]) (st' := [aI v2, aR 125, aR 131]) (show decode (mC 54) 28 = .ok (.iload_n 2, 1) by decide +kernel) rfl rfl ?_
      refine e_ialdx (n := 5) (show decode (mC 54) 29 = .ok (.iaload, 1) by decide +kernel) (sh_ok hG (by decide +kernel)) (sh_ln hG (by decide +kernel)) (by decide) (s5 p1 p2) (s6 p1 p2) ex2 ?_
      refine e_L (L' := [some (aR 124), none, some (aI v2)]) (st' := [aR 124, aI x2, aR 131]) (show decode (mC 54) 30 = .ok (.aload_n 0, 1) by decide +kernel) rfl (by show (if 124 = 0 then none else some (_, _)) = _; rw [if_neg (by decide)]) ?_
      refine e_getR (w := 130) (show decode (mC 54) 31 = .ok (.getfield 27, 3) by decide +kernel) (show pl 5 27 = some (0, 5, 8, 0) by decide +kernel) (by decide) (sh_ok hG (by decide +kernel)) (sh_rf hG (by decide +kernel)) ?_
      refine e_L (L' := [some (aR 124), none, some (aI v2)]) (st' := [aI v2, aR 130, aI x2, aR 131]) (show decode (mC 54) 34 = .ok (.iload_n 2, 1) by decide +kernel) rfl rfl ?_
      refine e_ialdx (n := 5) (show decode (mC 54) 35 = .ok (.iaload, 1) by decide +kernel) (sh_ok hG (by decide +kernel)) (sh_ln hG (by decide +kernel)) (by decide) (s5 p1 p2) (s6 p1 p2) ex3 ?_
      refine e_iast (n := 8) (show decode (mC 54) 36 = .ok (.iastore, 1) by decide +kernel) (sh_ok hG (by decide +kernel)) (sh_ln hG (by decide +kernel)) (by decide) (s9 p1 p2) (s10 p1 p2) ?_
      refine e_L (L' := [some (aR 124), none, some (aI (v2 + 1))]) (st' := []) (show decode (mC 54) 37 = .ok (.iinc 2 1, 3) by decide +kernel) rfl rfl ?_
      refine e_go (t := 7) (show decode (mC 54) 40 = .ok (.goto (-33), 3) by decide +kernel) (by decide) ?_
      exact (k11 p1 p2)
/-- SoulOffice$MostSearch.chooseAs(III)V, from 0 -/
theorem b269_0 (hG : Shp G) {v1 v2 v3 : Int} (hQ : ∀ o o' h', q_eqo o o' → Q o h' → Q o' h')
    (s0 : 0 ≤ v1)
    (s1 : v1 < 5)
    (m2 : TM d 52 [aR 124, aI (v1 + 1), aI v3] (G, (q_up c 130 v1 v2)) (fun r h' => T (d + 1) 269 15 [none, none, none, none] (r.toList ++ []) h' Q)) :
    T (d + 1) 269 0 [some (aR 124), some (aI v1), some (aI v2), some (aI v3)] [] (G, c) Q := by
  refine e_L (L' := [some (aR 124), some (aI v1), some (aI v2), some (aI v3)]) (st' := [aR 124]) (show decode (mC 269) 0 = .ok (.aload_n 0, 1) by decide +kernel) rfl (by show (if 124 = 0 then none else some (_, _)) = _; rw [if_neg (by decide)]) ?_
  refine e_getR (w := 130) (show decode (mC 269) 1 = .ok (.getfield 27, 3) by decide +kernel) (show pl 5 27 = some (0, 5, 8, 0) by decide +kernel) (by decide) (sh_ok hG (by decide +kernel)) (sh_rf hG (by decide +kernel)) ?_
  refine e_L (L' := [some (aR 124), some (aI v1), some (aI v2), some (aI v3)]) (st' := [aI v1, aR 130]) (show decode (mC 269) 4 = .ok (.iload_n 1, 1) by decide +kernel) rfl rfl ?_
  refine e_L (L' := [some (aR 124), some (aI v1), some (aI v2), some (aI v3)]) (st' := [aI v2, aI v1, aR 130]) (show decode (mC 269) 5 = .ok (.iload_n 2, 1) by decide +kernel) rfl rfl ?_
  refine e_iast (n := 5) (show decode (mC 269) 6 = .ok (.iastore, 1) by decide +kernel) (sh_ok hG (by decide +kernel)) (sh_ln hG (by decide +kernel)) (by decide) s0 s1 ?_
  refine e_L (L' := [some (aR 124), some (aI v1), some (aI v2), some (aI v3)]) (st' := [aR 124]) (show decode (mC 269) 7 = .ok (.aload_n 0, 1) by decide +kernel) rfl (by show (if 124 = 0 then none else some (_, _)) = _; rw [if_neg (by decide)]) ?_
  refine e_L (L' := [some (aR 124), some (aI v1), some (aI v2), some (aI v3)]) (st' := [aI v1, aR 124]) (show decode (mC 269) 8 = .ok (.iload_n 1, 1) by decide +kernel) rfl rfl ?_
  refine e_P (st' := [aI 1, aI v1, aR 124]) (show decode (mC 269) 9 = .ok (.iconst 1, 1) by decide +kernel) rfl rfl rfl ?_
  refine e_P (st' := [aI (v1 + 1), aR 124]) (show decode (mC 269) 10 = .ok (.iadd, 1) by decide +kernel) rfl rfl rfl ?_
  refine e_L (L' := [some (aR 124), some (aI v1), some (aI v2), some (aI v3)]) (st' := [aI v3, aI (v1 + 1), aR 124]) (show decode (mC 269) 11 = .ok (.iload_n 3, 1) by decide +kernel) rfl rfl ?_
  exact e_V (as := [aR 124, aI (v1 + 1), aI v3]) (rest := []) (show decode (mC 269) 12 = .ok (.invokevirtual 76, 3) by decide +kernel) (by decide +kernel) (show (decide ((3 : Nat) = mA 52) && decide (52 < q_law)) = true by decide +kernel) rfl (show (0 : Nat) ≤ 8 by decide) (show (3 : Nat) ≤ mL 52 by decide +kernel) rfl (sh_ok hG (by decide +kernel)) (tm_le hQ (leN (leN (leN (leN leE)))) m2)
/-- SoulOffice$MostSearch.chooseAs(III)V, from 15 -/
theorem b269_15 (hG : Shp G)
    (z0 : Q (.inl none) (G, c)) :
    T (d + 1) 269 15 [none, none, none, none] [] (G, c) Q := by
  exact e_vret (show decode (mC 269) 15 = .ok (.return_, 1) by decide +kernel) rfl z0
end QB15
