section QB12
variable {d : Nat} {G : GG} {c : CC} {Q : OO → HH → Prop}
/-- SoulOffice$AppealSearch.fewestChanges(II)I, from 0 -/
theorem b1_0 (hG : Shp G) {v1 v2 x1 : Int}
    (s0 : 0 ≤ v1)
    (s1 : v1 < 8)
    (ex1 : c 31 v1 = x1)
    (s3 : -2147483648 ≤ x1 ∧ x1 < 2147483648)
    (z4 : (x1 = 0) → Q (.inl (some (aI (-1)))) (G, c))
    (m5 : (¬ x1 = 0) → TM d 72 [aR 9, aI v1, aI v2] (G, c) (fun r h' => T (d + 1) 1 21 [some (aR 132), some (aI v1), some (aI v2), none, none, none] (r.toList ++ []) h' Q)) :
    T (d + 1) 1 0 [some (aR 132), some (aI v1), some (aI v2), none, none, none] [] (G, c) Q := by
  refine e_L (L' := [some (aR 132), some (aI v1), some (aI v2), none, none, none]) (st' := [aR 132]) (show decode (mC 1) 0 = .ok (.aload_n 0, 1) by decide +kernel) rfl (by show (if 132 = 0 then none else some (_, _)) = _; rw [if_neg (by decide)]) ?_
  refine e_getR (w := 27) (show decode (mC 1) 1 = .ok (.getfield 25, 3) by decide +kernel) (show pl 0 25 = some (0, 0, 1, 0) by decide +kernel) (by decide) (sh_ok hG (by decide +kernel)) (sh_rf hG (by decide +kernel)) ?_
  refine e_getR (w := 31) (show decode (mC 1) 4 = .ok (.getfield 29, 3) by decide +kernel) (show pl 0 29 = some (0, 4, 7, 0) by decide +kernel) (by decide) (sh_ok hG (by decide +kernel)) (sh_rf hG (by decide +kernel)) ?_
  refine e_L (L' := [some (aR 132), some (aI v1), some (aI v2), none, none, none]) (st' := [aI v1, aR 31]) (show decode (mC 1) 7 = .ok (.iload_n 1, 1) by decide +kernel) rfl rfl ?_
  refine e_ialdx (n := 8) (show decode (mC 1) 8 = .ok (.iaload, 1) by decide +kernel) (sh_ok hG (by decide +kernel)) (sh_ln hG (by decide +kernel)) (by decide) s0 s1 ex1 ?_
  refine e_eq1 (t := 24) (show decode (mC 1) 9 = .ok (.ifCond .eq 15, 3) by decide +kernel) (by decide) s3 (fun p1 => ?_) (fun p1 => ?_)
  · refine e_P (st' := [aI (-1)]) (show decode (mC 1) 24 = .ok (.iconst (-1), 1) by decide +kernel) rfl rfl rfl ?_
    exact e_iret (show decode (mC 1) 25 = .ok (.ireturn, 1) by decide +kernel) rfl (z4 p1)
  · refine e_L (L' := [some (aR 132), some (aI v1), some (aI v2), none, none, none]) (st' := [aR 132]) (show decode (mC 1) 12 = .ok (.aload_n 0, 1) by decide +kernel) rfl (by show (if 132 = 0 then none else some (_, _)) = _; rw [if_neg (by decide)]) ?_
    refine e_getR (w := 9) (show decode (mC 1) 13 = .ok (.getfield 21, 3) by decide +kernel) (show pl 0 21 = some (0, 0, 0, 0) by decide +kernel) (by decide) (sh_ok hG (by decide +kernel)) (sh_rf hG (by decide +kernel)) ?_
    refine e_L (L' := [some (aR 132), some (aI v1), some (aI v2), none, none, none]) (st' := [aI v1, aR 9]) (show decode (mC 1) 16 = .ok (.iload_n 1, 1) by decide +kernel) rfl rfl ?_
    refine e_L (L' := [some (aR 132), some (aI v1), some (aI v2), none, none, none]) (st' := [aI v2, aI v1, aR 9]) (show decode (mC 1) 17 = .ok (.iload_n 2, 1) by decide +kernel) rfl rfl ?_
    exact e_V (as := [aR 9, aI v1, aI v2]) (rest := []) (show decode (mC 1) 18 = .ok (.invokevirtual 34, 3) by decide +kernel) (by decide +kernel) (show (decide ((3 : Nat) = mA 72) && decide (72 < q_law)) = true by decide +kernel) rfl (show (0 : Nat) ≤ 8 by decide) (show (3 : Nat) ≤ mL 72 by decide +kernel) rfl (sh_ok hG (by decide +kernel)) (m5 p1)
/-- SoulOffice$AppealSearch.fewestChanges(II)I, from 21 -/
theorem b1_21 (hG : Shp G) {v1 v2 u0 x1 : Int}
    (s0 : -2147483648 ≤ u0 ∧ u0 < 2147483648)
    (s1 : (¬ u0 = 0) → 0 ≤ v1)
    (s2 : (¬ u0 = 0) → v1 < 8)
    (ex1 : c 28 v1 = x1)
    (s4 : (¬ u0 = 0) → -2147483648 ≤ x1 ∧ x1 < 2147483648)
    (s5 : (¬ u0 = 0) → -2147483648 ≤ v2 ∧ v2 < 2147483648)
    (z6 : (¬ u0 = 0) → (x1 = v2) → (¬ x1 = v2) → Q (.inl (some (aI (-1)))) (G, c))
    (z7 : (¬ u0 = 0) → (x1 = v2) → (x1 = v2) → Q (.inl (some (aI 0))) (G, c))
    (k8 : (¬ u0 = 0) → (¬ x1 = v2) → (¬ x1 = (-1)) → T (d + 1) 1 60 [some (aR 132), some (aI v1), some (aI v2), some (aI x1), some (aI 0), none] [] (G, c) Q)
    (z9 : (¬ u0 = 0) → (¬ x1 = v2) → (x1 = (-1)) → (¬ x1 = v2) → Q (.inl (some (aI (-1)))) (G, c))
    (z10 : (¬ u0 = 0) → (¬ x1 = v2) → (x1 = (-1)) → (x1 = v2) → Q (.inl (some (aI 0))) (G, c))
    (z11 : (u0 = 0) → Q (.inl (some (aI (-1)))) (G, c)) :
    T (d + 1) 1 21 [some (aR 132), some (aI v1), some (aI v2), none, none, none] [aI u0] (G, c) Q := by
  refine e_ne1 (t := 26) (show decode (mC 1) 21 = .ok (.ifCond .ne 5, 3) by decide +kernel) (by decide) s0 (fun p1 => ?_) (fun p1 => ?_)
  · refine e_L (L' := [some (aR 132), some (aI v1), some (aI v2), none, none, none]) (st' := [aR 132]) (show decode (mC 1) 26 = .ok (.aload_n 0, 1) by decide +kernel) rfl (by show (if 132 = 0 then none else some (_, _)) = _; rw [if_neg (by decide)]) ?_
    refine e_getR (w := 27) (show decode (mC 1) 27 = .ok (.getfield 25, 3) by decide +kernel) (show pl 0 25 = some (0, 0, 1, 0) by decide +kernel) (by decide) (sh_ok hG (by decide +kernel)) (sh_rf hG (by decide +kernel)) ?_
    refine e_getR (w := 28) (show decode (mC 1) 30 = .ok (.getfield 40, 3) by decide +kernel) (show pl 0 40 = some (0, 4, 4, 0) by decide +kernel) (by decide) (sh_ok hG (by decide +kernel)) (sh_rf hG (by decide +kernel)) ?_
    refine e_L (L' := [some (aR 132), some (aI v1), some (aI v2), none, none, none]) (st' := [aI v1, aR 28]) (show decode (mC 1) 33 = .ok (.iload_n 1, 1) by decide +kernel) rfl rfl ?_
    refine e_ialdx (n := 8) (show decode (mC 1) 34 = .ok (.iaload, 1) by decide +kernel) (sh_ok hG (by decide +kernel)) (sh_ln hG (by decide +kernel)) (by decide) (s1 p1) (s2 p1) ex1 ?_
    refine e_L (L' := [some (aR 132), some (aI v1), some (aI v2), some (aI x1), none, none]) (st' := []) (show decode (mC 1) 35 = .ok (.istore_n 3, 1) by decide +kernel) rfl rfl ?_
    refine e_L (L' := [some (aR 132), some (aI v1), some (aI v2), some (aI x1), none, none]) (st' := [aI x1]) (show decode (mC 1) 36 = .ok (.iload_n 3, 1) by decide +kernel) rfl rfl ?_
    refine e_L (L' := [some (aR 132), some (aI v1), some (aI v2), some (aI x1), none, none]) (st' := [aI v2, aI x1]) (show decode (mC 1) 37 = .ok (.iload_n 2, 1) by decide +kernel) rfl rfl ?_
    refine e_eq2 (t := 46) (show decode (mC 1) 38 = .ok (.if_icmp .eq 8, 3) by decide +kernel) (by decide) (s4 p1) (s5 p1) (fun p2 => ?_) (fun p2 => ?_)
    · refine e_L (L' := [some (aR 132), some (aI v1), some (aI v2), some (aI x1), none, none]) (st' := [aI x1]) (show decode (mC 1) 46 = .ok (.iload_n 3, 1) by decide +kernel) rfl rfl ?_
      refine e_L (L' := [some (aR 132), some (aI v1), some (aI v2), some (aI x1), none, none]) (st' := [aI v2, aI x1]) (show decode (mC 1) 47 = .ok (.iload_n 2, 1) by decide +kernel) rfl rfl ?_
      refine e_ne2 (t := 55) (show decode (mC 1) 48 = .ok (.if_icmp .ne 7, 3) by decide +kernel) (by decide) (s4 p1) (s5 p1) (fun p3 => ?_) (fun p3 => ?_)
      · refine e_P (st' := [aI (-1)]) (show decode (mC 1) 55 = .ok (.iconst (-1), 1) by decide +kernel) rfl rfl rfl ?_
        exact e_iret (show decode (mC 1) 56 = .ok (.ireturn, 1) by decide +kernel) rfl (z6 p1 p2 p3)
      · refine e_P (st' := [aI 0]) (show decode (mC 1) 51 = .ok (.iconst 0, 1) by decide +kernel) rfl rfl rfl ?_
        refine e_go (t := 56) (show decode (mC 1) 52 = .ok (.goto 4, 3) by decide +kernel) (by decide) ?_
        exact e_iret (show decode (mC 1) 56 = .ok (.ireturn, 1) by decide +kernel) rfl (z7 p1 p2 p3)
    · refine e_L (L' := [some (aR 132), some (aI v1), some (aI v2), some (aI x1), none, none]) (st' := [aI x1]) (show decode (mC 1) 41 = .ok (.iload_n 3, 1) by decide +kernel) rfl rfl ?_
      refine e_P (st' := [aI (-1), aI x1]) (show decode (mC 1) 42 = .ok (.iconst (-1), 1) by decide +kernel) rfl rfl rfl ?_
      refine e_ne2 (t := 57) (show decode (mC 1) 43 = .ok (.if_icmp .ne 14, 3) by decide +kernel) (by decide) (s4 p1) (by decide) (fun p3 => ?_) (fun p3 => ?_)
      · refine e_P (st' := [aI 0]) (show decode (mC 1) 57 = .ok (.iconst 0, 1) by decide +kernel) rfl rfl rfl ?_
        refine e_L (L' := [some (aR 132), some (aI v1), some (aI v2), some (aI x1), some (aI 0), none]) (st' := []) (show decode (mC 1) 58 = .ok (.istore 4, 2) by decide +kernel) rfl rfl ?_
        exact (k8 p1 p2 p3)
      · refine e_L (L' := [some (aR 132), some (aI v1), some (aI v2), some (aI x1), none, none]) (st' := [aI x1]) (show decode (mC 1) 46 = .ok (.iload_n 3, 1) by decide +kernel) rfl rfl ?_
        refine e_L (L' := [some (aR 132), some (aI v1), some (aI v2), some (aI x1), none, none]) (st' := [aI v2, aI x1]) (show decode (mC 1) 47 = .ok (.iload_n 2, 1) by decide +kernel) rfl rfl ?_
        refine e_ne2 (t := 55) (show decode (mC 1) 48 = .ok (.if_icmp .ne 7, 3) by decide +kernel) (by decide) (s4 p1) (s5 p1) (fun p4 => ?_) (fun p4 => ?_)
        · refine e_P (st' := [aI (-1)]) (show decode (mC 1) 55 = .ok (.iconst (-1), 1) by decide +kernel) rfl rfl rfl ?_
          exact e_iret (show decode (mC 1) 56 = .ok (.ireturn, 1) by decide +kernel) rfl (z9 p1 p2 p3 p4)
        · refine e_P (st' := [aI 0]) (show decode (mC 1) 51 = .ok (.iconst 0, 1) by decide +kernel) rfl rfl rfl ?_
          refine e_go (t := 56) (show decode (mC 1) 52 = .ok (.goto 4, 3) by decide +kernel) (by decide) ?_
          exact e_iret (show decode (mC 1) 56 = .ok (.ireturn, 1) by decide +kernel) rfl (z10 p1 p2 p3 p4)
  · refine e_P (st' := [aI (-1)]) (show decode (mC 1) 24 = .ok (.iconst (-1), 1) by decide +kernel) rfl rfl rfl ?_
    exact e_iret (show decode (mC 1) 25 = .ok (.ireturn, 1) by decide +kernel) rfl (z11 p1)
/-- SoulOffice$AppealSearch.fewestChanges(II)I, from 60 -/
theorem b1_60 (hG : Shp G) {v1 v2 v3 v4 x1 x2 x3 : Int} (hQ : ∀ o o' h', q_eqo o o' → Q o h' → Q o' h')
    (ex1 : c 9 0 = x1)
    (s1 : -2147483648 ≤ v4 ∧ v4 < 2147483648)
    (s2 : -2147483648 ≤ x1 ∧ x1 < 2147483648)
    (s3 : (x1 ≤ v4) → 0 ≤ v3)
    (s4 : (x1 ≤ v4) → v3 < 6)
    (ex2 : c 133 v3 = x2)
    (k6 : (x1 ≤ v4) → T (d + 1) 1 126 [some (aR 132), some (aI v1), none, none, some (aI 1), none] [] (G, (q_up c 133 v3 (x2 + 1))) Q)
    (s7 : (v4 < x1) → 0 ≤ v4)
    (s8 : (v4 < x1) → v4 < 6)
    (ex3 : c 32 v4 = x3)
    (s10 : (v4 < x1) → -2147483648 ≤ v2 ∧ v2 < 2147483648)
    (k11 : (v4 < x1) → (¬ v4 = v2) → T (d + 1) 1 60 [some (aR 132), some (aI v1), some (aI v2), some (aI v3), some (aI (v4 + 1)), none] [] (G, (q_up (q_up c 133 v4 x3) 134 v4 0)) Q)
    (k12 : (v4 < x1) → (v4 = v2) → T (d + 1) 1 60 [some (aR 132), some (aI v1), some (aI v2), some (aI v3), some (aI (v4 + 1)), none] [] (G, (q_up (q_up c 133 v4 x3) 134 v4 1)) Q) :
    T (d + 1) 1 60 [some (aR 132), some (aI v1), some (aI v2), some (aI v3), some (aI v4), none] [] (G, c) Q := by
  refine e_L (L' := [some (aR 132), some (aI v1), some (aI v2), some (aI v3), some (aI v4), none]) (st' := [aI v4]) (show decode (mC 1) 60 = .ok (.iload 4, 2) by decide +kernel) rfl rfl ?_
  refine e_L (L' := [some (aR 132), some (aI v1), some (aI v2), some (aI v3), some (aI v4), none]) (st' := [aR 132, aI v4]) (show decode (mC 1) 62 = .ok (.aload_n 0, 1) by decide +kernel) rfl (by show (if 132 = 0 then none else some (_, _)) = _; rw [if_neg (by decide)]) ?_
  refine e_getR (w := 9) (show decode (mC 1) 63 = .ok (.getfield 21, 3) by decide +kernel) (show pl 0 21 = some (0, 0, 0, 0) by decide +kernel) (by decide) (sh_ok hG (by decide +kernel)) (sh_rf hG (by decide +kernel)) ?_
  refine e_getIx (show decode (mC 1) 66 = .ok (.getfield 43, 3) by decide +kernel) (show pl 0 43 = some (0, 8, 0, 0) by decide +kernel) (by decide) (sh_ok hG (by decide +kernel)) ex1 ?_
  refine e_ge2 (t := 113) (show decode (mC 1) 69 = .ok (.if_icmp .ge 44, 3) by decide +kernel) (by decide) s1 s2 (fun p1 => ?_) (fun p1 => ?_)
  · refine e_L (L' := [some (aR 132), some (aI v1), some (aI v2), some (aI v3), some (aI v4), none]) (st' := [aR 132]) (show decode (mC 1) 113 = .ok (.aload_n 0, 1) by decide +kernel) rfl (by show (if 132 = 0 then none else some (_, _)) = _; rw [if_neg (by decide)]) ?_
    refine e_getR (w := 133) (show decode (mC 1) 114 = .ok (.getfield 9, 3) by decide +kernel) (show pl 0 9 = some (0, 0, 2, 0) by decide +kernel) (by decide) (sh_ok hG (by decide +kernel)) (sh_rf hG (by decide +kernel)) ?_
    refine e_L (L' := [some (aR 132), some (aI v1), some (aI v2), some (aI v3), some (aI v4), none]) (st' := [aI v3, aR 133]) (show decode (mC 1) 117 = .ok (.iload_n 3, 1) by decide +kernel) rfl rfl ?_
    refine e_P (st' := [aI v3, aR 133, aI v3, aR 133]) (show decode (mC 1) 118 = .ok (.dup2, 1) by decide +kernel) rfl rfl rfl ?_
    refine e_ialdx (n := 6) (show decode (mC 1) 119 = .ok (.iaload, 1) by decide +kernel) (sh_ok hG (by decide +kernel)) (sh_ln hG (by decide +kernel)) (by decide) (s3 p1) (s4 p1) ex2 ?_
    refine e_P (st' := [aI 1, aI x2, aI v3, aR 133]) (show decode (mC 1) 120 = .ok (.iconst 1, 1) by decide +kernel) rfl rfl rfl ?_
    refine e_P (st' := [aI (x2 + 1), aI v3, aR 133]) (show decode (mC 1) 121 = .ok (.iadd, 1) by decide +kernel) rfl rfl rfl ?_
    refine e_iast (n := 6) (show decode (mC 1) 122 = .ok (.iastore, 1) by decide +kernel) (sh_ok hG (by decide +kernel)) (sh_ln hG (by decide +kernel)) (by decide) (s3 p1) (s4 p1) ?_
    refine e_P (st' := [aI 1]) (show decode (mC 1) 123 = .ok (.iconst 1, 1) by decide +kernel) rfl rfl rfl ?_
    refine e_L (L' := [some (aR 132), some (aI v1), some (aI v2), some (aI v3), some (aI 1), none]) (st' := []) (show decode (mC 1) 124 = .ok (.istore 4, 2) by decide +kernel) rfl rfl ?_
    exact T_le hQ (leS (leS (leN (leN (leS (leS leE)))))) (k6 p1)
  · refine e_L (L' := [some (aR 132), some (aI v1), some (aI v2), some (aI v3), some (aI v4), none]) (st' := [aR 132]) (show decode (mC 1) 72 = .ok (.aload_n 0, 1) by decide +kernel) rfl (by show (if 132 = 0 then none else some (_, _)) = _; rw [if_neg (by decide)]) ?_
    refine e_getR (w := 133) (show decode (mC 1) 73 = .ok (.getfield 9, 3) by decide +kernel) (show pl 0 9 = some (0, 0, 2, 0) by decide +kernel) (by decide) (sh_ok hG (by decide +kernel)) (sh_rf hG (by decide +kernel)) ?_
    refine e_L (L' := [some (aR 132), some (aI v1), some (aI v2), some (aI v3), some (aI v4), none]) (st' := [aI v4, aR 133]) (show decode (mC 1) 76 = .ok (.iload 4, 2) by decide +kernel) rfl rfl ?_
    refine e_L (L' := [some (aR 132), some (aI v1), some (aI v2), some (aI v3), some (aI v4), none]) (st' := [aR 132, aI v4, aR 133]) (show decode (mC 1) 78 = .ok (.aload_n 0, 1) by decide +kernel) rfl (by show (if 132 = 0 then none else some (_, _)) = _; rw [if_neg (by decide)]) ?_
    refine e_getR (w := 27) (show decode (mC 1) 79 = .ok (.getfield 25, 3) by decide +kernel) (show pl 0 25 = some (0, 0, 1, 0) by decide +kernel) (by decide) (sh_ok hG (by decide +kernel)) (sh_rf hG (by decide +kernel)) ?_
    refine e_getR (w := 32) (show decode (mC 1) 82 = .ok (.getfield 47, 3) by decide +kernel) (show pl 0 47 = some (0, 4, 8, 0) by decide +kernel) (by decide) (sh_ok hG (by decide +kernel)) (sh_rf hG (by decide +kernel)) ?_
    refine e_L (L' := [some (aR 132), some (aI v1), some (aI v2), some (aI v3), some (aI v4), none]) (st' := [aI v4, aR 32, aI v4, aR 133]) (show decode (mC 1) 85 = .ok (.iload 4, 2) by decide +kernel) rfl rfl ?_
    refine e_ialdx (n := 6) (show decode (mC 1) 87 = .ok (.iaload, 1) by decide +kernel) (sh_ok hG (by decide +kernel)) (sh_ln hG (by decide +kernel)) (by decide) (s7 p1) (s8 p1) ex3 ?_
    refine e_iast (n := 6) (show decode (mC 1) 88 = .ok (.iastore, 1) by decide +kernel) (sh_ok hG (by decide +kernel)) (sh_ln hG (by decide +kernel)) (by decide) (s7 p1) (s8 p1) ?_
    refine e_L (L' := [some (aR 132), some (aI v1), some (aI v2), some (aI v3), some (aI v4), none]) (st' := [aR 132]) (show decode (mC 1) 89 = .ok (.aload_n 0, 1) by decide +kernel) rfl (by show (if 132 = 0 then none else some (_, _)) = _; rw [if_neg (by decide)]) ?_
    refine e_getR (w := 134) (show decode (mC 1) 90 = .ok (.getfield 15, 3) by decide +kernel) (show pl 0 15 = some (0, 0, 3, 0) by decide +kernel) (by decide) (sh_ok hG (by decide +kernel)) (sh_rf hG (by decide +kernel)) ?_
    refine e_L (L' := [some (aR 132), some (aI v1), some (aI v2), some (aI v3), some (aI v4), none]) (st' := [aI v4, aR 134]) (show decode (mC 1) 93 = .ok (.iload 4, 2) by decide +kernel) rfl rfl ?_
    refine e_L (L' := [some (aR 132), some (aI v1), some (aI v2), some (aI v3), some (aI v4), none]) (st' := [aI v4, aI v4, aR 134]) (show decode (mC 1) 95 = .ok (.iload 4, 2) by decide +kernel) rfl rfl ?_
    refine e_L (L' := [some (aR 132), some (aI v1), some (aI v2), some (aI v3), some (aI v4), none]) (st' := [aI v2, aI v4, aI v4, aR 134]) (show decode (mC 1) 97 = .ok (.iload_n 2, 1) by decide +kernel) rfl rfl ?_
    refine e_ne2 (t := 105) (show decode (mC 1) 98 = .ok (.if_icmp .ne 7, 3) by decide +kernel) (by decide) s1 (s10 p1) (fun p2 => ?_) (fun p2 => ?_)
    · refine e_P (st' := [aI 0, aI v4, aR 134]) (show decode (mC 1) 105 = .ok (.iconst 0, 1) by decide +kernel) rfl rfl rfl ?_
      refine e_iast (n := 6) (show decode (mC 1) 106 = .ok (.iastore, 1) by decide +kernel) (sh_ok hG (by decide +kernel)) (sh_ln hG (by decide +kernel)) (by decide) (s7 p1) (s8 p1) ?_
      refine e_L (L' := [some (aR 132), some (aI v1), some (aI v2), some (aI v3), some (aI (v4 + 1)), none]) (st' := []) (show decode (mC 1) 107 = .ok (.iinc 4 1, 3) by decide +kernel) rfl rfl ?_
      refine e_go (t := 60) (show decode (mC 1) 110 = .ok (.goto (-50), 3) by decide +kernel) (by decide) ?_
      exact (k11 p1 p2)
    · refine e_P (st' := [aI 1, aI v4, aR 134]) (show decode (mC 1) 101 = .ok (.iconst 1, 1) by decide +kernel) rfl rfl rfl ?_
      refine e_go (t := 106) (show decode (mC 1) 102 = .ok (.goto 4, 3) by decide +kernel) (by decide) ?_
      refine e_iast (n := 6) (show decode (mC 1) 106 = .ok (.iastore, 1) by decide +kernel) (sh_ok hG (by decide +kernel)) (sh_ln hG (by decide +kernel)) (by decide) (s7 p1) (s8 p1) ?_
      refine e_L (L' := [some (aR 132), some (aI v1), some (aI v2), some (aI v3), some (aI (v4 + 1)), none]) (st' := []) (show decode (mC 1) 107 = .ok (.iinc 4 1, 3) by decide +kernel) rfl rfl ?_
      refine e_go (t := 60) (show decode (mC 1) 110 = .ok (.goto (-50), 3) by decide +kernel) (by decide) ?_
      exact (k12 p1 p2)
/-- SoulOffice$AppealSearch.fewestChanges(II)I, from 126 -/
theorem b1_126 (hG : Shp G) {v1 v4 x1 : Int}
    (ex1 : c 9 0 = x1)
    (s1 : -2147483648 ≤ v4 ∧ v4 < 2147483648)
    (s2 : -2147483648 ≤ x1 ∧ x1 < 2147483648)
    (z3 : (x1 < v4) → Q (.inl (some (aI (-1)))) (G, c))
    (k4 : (v4 ≤ x1) → T (d + 1) 1 141 [some (aR 132), some (aI v1), none, none, some (aI v4), some (aI 0)] [] (G, c) Q) :
    T (d + 1) 1 126 [some (aR 132), some (aI v1), none, none, some (aI v4), none] [] (G, c) Q := by
  refine e_L (L' := [some (aR 132), some (aI v1), none, none, some (aI v4), none]) (st' := [aI v4]) (show decode (mC 1) 126 = .ok (.iload 4, 2) by decide +kernel) rfl rfl ?_
  refine e_L (L' := [some (aR 132), some (aI v1), none, none, some (aI v4), none]) (st' := [aR 132, aI v4]) (show decode (mC 1) 128 = .ok (.aload_n 0, 1) by decide +kernel) rfl (by show (if 132 = 0 then none else some (_, _)) = _; rw [if_neg (by decide)]) ?_
  refine e_getR (w := 9) (show decode (mC 1) 129 = .ok (.getfield 21, 3) by decide +kernel) (show pl 0 21 = some (0, 0, 0, 0) by decide +kernel) (by decide) (sh_ok hG (by decide +kernel)) (sh_rf hG (by decide +kernel)) ?_
  refine e_getIx (show decode (mC 1) 132 = .ok (.getfield 43, 3) by decide +kernel) (show pl 0 43 = some (0, 8, 0, 0) by decide +kernel) (by decide) (sh_ok hG (by decide +kernel)) ex1 ?_
  refine e_gt2 (t := 197) (show decode (mC 1) 135 = .ok (.if_icmp .gt 62, 3) by decide +kernel) (by decide) s1 s2 (fun p1 => ?_) (fun p1 => ?_)
  · refine e_P (st' := [aI (-1)]) (show decode (mC 1) 197 = .ok (.iconst (-1), 1) by decide +kernel) rfl rfl rfl ?_
    exact e_iret (show decode (mC 1) 198 = .ok (.ireturn, 1) by decide +kernel) rfl (z3 p1)
  · refine e_P (st' := [aI 0]) (show decode (mC 1) 138 = .ok (.iconst 0, 1) by decide +kernel) rfl rfl rfl ?_
    refine e_L (L' := [some (aR 132), some (aI v1), none, none, some (aI v4), some (aI 0)]) (st' := []) (show decode (mC 1) 139 = .ok (.istore 5, 2) by decide +kernel) rfl rfl ?_
    exact (k4 p1)
/-- SoulOffice$AppealSearch.fewestChanges(II)I, from 141 -/
theorem b1_141 (hG : Shp G) {v1 v4 v5 x1 x2 x3 : Int} (hQ : ∀ o o' h', q_eqo o o' → Q o h' → Q o' h')
    (ex1 : c 9 0 = x1)
    (s1 : -2147483648 ≤ v5 ∧ v5 < 2147483648)
    (s2 : -2147483648 ≤ x1 ∧ x1 < 2147483648)
    (m3 : (x1 ≤ v5) → TM d 2 [aR 132, aI v1, aI v4] (G, c) (fun r h' => T (d + 1) 1 191 [some (aR 132), some (aI v1), none, none, some (aI v4), none] (r.toList ++ []) h' Q))
    (s4 : (v5 < x1) → 0 ≤ v5)
    (s5 : (v5 < x1) → v5 < 6)
    (ex2 : c 134 v5 = x2)
    (s7 : (v5 < x1) → -2147483648 ≤ x2 ∧ x2 < 2147483648)
    (s8 : (v5 < x1) → -2147483648 ≤ v4 ∧ v4 < 2147483648)
    (k9 : (v5 < x1) → (¬ x2 = v4) → T (d + 1) 1 141 [some (aR 132), some (aI v1), none, none, some (aI v4), some (aI (v5 + 1))] [] (G, c) Q)
    (ex3 : c 133 v5 = x3)
    (s11 : (v5 < x1) → (x2 = v4) → -2147483648 ≤ x3 ∧ x3 < 2147483648)
    (k12 : (v5 < x1) → (x2 = v4) → (x3 ≤ 0) → T (d + 1) 1 141 [some (aR 132), some (aI v1), none, none, some (aI v4), some (aI (v5 + 1))] [] (G, c) Q)
    (z13 : (v5 < x1) → (x2 = v4) → (0 < x3) → Q (.inl (some (aI v4))) (G, c)) :
    T (d + 1) 1 141 [some (aR 132), some (aI v1), none, none, some (aI v4), some (aI v5)] [] (G, c) Q := by
  refine e_L (L' := [some (aR 132), some (aI v1), none, none, some (aI v4), some (aI v5)]) (st' := [aI v5]) (show decode (mC 1) 141 = .ok (.iload 5, 2) by decide +kernel) rfl rfl ?_
  refine e_L (L' := [some (aR 132), some (aI v1), none, none, some (aI v4), some (aI v5)]) (st' := [aR 132, aI v5]) (show decode (mC 1) 143 = .ok (.aload_n 0, 1) by decide +kernel) rfl (by show (if 132 = 0 then none else some (_, _)) = _; rw [if_neg (by decide)]) ?_
  refine e_getR (w := 9) (show decode (mC 1) 144 = .ok (.getfield 21, 3) by decide +kernel) (show pl 0 21 = some (0, 0, 0, 0) by decide +kernel) (by decide) (sh_ok hG (by decide +kernel)) (sh_rf hG (by decide +kernel)) ?_
  refine e_getIx (show decode (mC 1) 147 = .ok (.getfield 43, 3) by decide +kernel) (show pl 0 43 = some (0, 8, 0, 0) by decide +kernel) (by decide) (sh_ok hG (by decide +kernel)) ex1 ?_
  refine e_ge2 (t := 184) (show decode (mC 1) 150 = .ok (.if_icmp .ge 34, 3) by decide +kernel) (by decide) s1 s2 (fun p1 => ?_) (fun p1 => ?_)
  · refine e_L (L' := [some (aR 132), some (aI v1), none, none, some (aI v4), some (aI v5)]) (st' := [aR 132]) (show decode (mC 1) 184 = .ok (.aload_n 0, 1) by decide +kernel) rfl (by show (if 132 = 0 then none else some (_, _)) = _; rw [if_neg (by decide)]) ?_
    refine e_L (L' := [some (aR 132), some (aI v1), none, none, some (aI v4), some (aI v5)]) (st' := [aI v1, aR 132]) (show decode (mC 1) 185 = .ok (.iload_n 1, 1) by decide +kernel) rfl rfl ?_
    refine e_L (L' := [some (aR 132), some (aI v1), none, none, some (aI v4), some (aI v5)]) (st' := [aI v4, aI v1, aR 132]) (show decode (mC 1) 186 = .ok (.iload 4, 2) by decide +kernel) rfl rfl ?_
    exact e_V (as := [aR 132, aI v1, aI v4]) (rest := []) (show decode (mC 1) 188 = .ok (.invokevirtual 50, 3) by decide +kernel) (by decide +kernel) (show (decide ((3 : Nat) = mA 2) && decide (2 < q_law)) = true by decide +kernel) rfl (show (0 : Nat) ≤ 8 by decide) (show (3 : Nat) ≤ mL 2 by decide +kernel) rfl (sh_ok hG (by decide +kernel)) (tm_le hQ (leS (leS (leS (leS (leS (leN leE)))))) (m3 p1))
  · refine e_L (L' := [some (aR 132), some (aI v1), none, none, some (aI v4), some (aI v5)]) (st' := [aR 132]) (show decode (mC 1) 153 = .ok (.aload_n 0, 1) by decide +kernel) rfl (by show (if 132 = 0 then none else some (_, _)) = _; rw [if_neg (by decide)]) ?_
    refine e_getR (w := 134) (show decode (mC 1) 154 = .ok (.getfield 15, 3) by decide +kernel) (show pl 0 15 = some (0, 0, 3, 0) by decide +kernel) (by decide) (sh_ok hG (by decide +kernel)) (sh_rf hG (by decide +kernel)) ?_
    refine e_L (L' := [some (aR 132), some (aI v1), none, none, some (aI v4), some (aI v5)]) (st' := [aI v5, aR 134]) (show decode (mC 1) 157 = .ok (.iload 5, 2) by decide +kernel) rfl rfl ?_
    refine e_ialdx (n := 6) (show decode (mC 1) 159 = .ok (.iaload, 1) by decide +kernel) (sh_ok hG (by decide +kernel)) (sh_ln hG (by decide +kernel)) (by decide) (s4 p1) (s5 p1) ex2 ?_
    refine e_L (L' := [some (aR 132), some (aI v1), none, none, some (aI v4), some (aI v5)]) (st' := [aI v4, aI x2]) (show decode (mC 1) 160 = .ok (.iload 4, 2) by decide +kernel) rfl rfl ?_
    refine e_ne2 (t := 178) (show decode (mC 1) 162 = .ok (.if_icmp .ne 16, 3) by decide +kernel) (by decide) (s7 p1) (s8 p1) (fun p2 => ?_) (fun p2 => ?_)
    · refine e_L (L' := [some (aR 132), some (aI v1), none, none, some (aI v4), some (aI (v5 + 1))]) (st' := []) (show decode (mC 1) 178 = .ok (.iinc 5 1, 3) by decide +kernel) rfl rfl ?_
      refine e_go (t := 141) (show decode (mC 1) 181 = .ok (.goto (-40), 3) by decide +kernel) (by decide) ?_
      exact (k9 p1 p2)
    · refine e_L (L' := [some (aR 132), some (aI v1), none, none, some (aI v4), some (aI v5)]) (st' := [aR 132]) (show decode (mC 1) 165 = .ok (.aload_n 0, 1) by decide +kernel) rfl (by show (if 132 = 0 then none else some (_, _)) = _; rw [if_neg (by decide)]) ?_
      refine e_getR (w := 133) (show decode (mC 1) 166 = .ok (.getfield 9, 3) by decide +kernel) (show pl 0 9 = some (0, 0, 2, 0) by decide +kernel) (by decide) (sh_ok hG (by decide +kernel)) (sh_rf hG (by decide +kernel)) ?_
      refine e_L (L' := [some (aR 132), some (aI v1), none, none, some (aI v4), some (aI v5)]) (st' := [aI v5, aR 133]) (show decode (mC 1) 169 = .ok (.iload 5, 2) by decide +kernel) rfl rfl ?_
      refine e_ialdx (n := 6) (show decode (mC 1) 171 = .ok (.iaload, 1) by decide +kernel) (sh_ok hG (by decide +kernel)) (sh_ln hG (by decide +kernel)) (by decide) (s4 p1) (s5 p1) ex3 ?_
      refine e_le1 (t := 178) (show decode (mC 1) 172 = .ok (.ifCond .le 6, 3) by decide +kernel) (by decide) (s11 p1 p2) (fun p3 => ?_) (fun p3 => ?_)
      · refine e_L (L' := [some (aR 132), some (aI v1), none, none, some (aI v4), some (aI (v5 + 1))]) (st' := []) (show decode (mC 1) 178 = .ok (.iinc 5 1, 3) by decide +kernel) rfl rfl ?_
        refine e_go (t := 141) (show decode (mC 1) 181 = .ok (.goto (-40), 3) by decide +kernel) (by decide) ?_
        exact (k12 p1 p2 p3)
      · refine e_L (L' := [some (aR 132), some (aI v1), none, none, some (aI v4), some (aI v5)]) (st' := [aI v4]) (show decode (mC 1) 175 = .ok (.iload 4, 2) by decide +kernel) rfl rfl ?_
        exact e_iret (show decode (mC 1) 177 = .ok (.ireturn, 1) by decide +kernel) rfl (z13 p1 p2 p3)
/-- SoulOffice$AppealSearch.fewestChanges(II)I, from 191 -/
theorem b1_191 (hG : Shp G) {v1 v4 : Int}
    (k0 : T (d + 1) 1 126 [some (aR 132), some (aI v1), none, none, some (aI (v4 + 1)), none] [] (G, c) Q) :
    T (d + 1) 1 191 [some (aR 132), some (aI v1), none, none, some (aI v4), none] [] (G, c) Q := by
  refine e_L (L' := [some (aR 132), some (aI v1), none, none, some (aI (v4 + 1)), none]) (st' := []) (show decode (mC 1) 191 = .ok (.iinc 4 1, 3) by decide +kernel) rfl rfl ?_
  refine e_go (t := 126) (show decode (mC 1) 194 = .ok (.goto (-68), 3) by decide +kernel) (by decide) ?_
  exact k0
/-- SoulOffice$AppealSearch.stepOn(II)V, from 0 -/
theorem b2_0 (hG : Shp G) {v1 v2 : Int}
    (k0 : T (d + 1) 2 2 [some (aR 132), some (aI v1), some (aI v2), some (aI 0), none, none] [] (G, c) Q) :
    T (d + 1) 2 0 [some (aR 132), some (aI v1), some (aI v2), none, none, none] [] (G, c) Q := by
  refine e_P (st' := [aI 0]) (show decode (mC 2) 0 = .ok (.iconst 0, 1) by decide +kernel) rfl rfl rfl ?_
  refine e_L (L' := [some (aR 132), some (aI v1), some (aI v2), some (aI 0), none, none]) (st' := []) (show decode (mC 2) 1 = .ok (.istore_n 3, 1) by decide +kernel) rfl rfl ?_
  exact k0
/-- SoulOffice$AppealSearch.stepOn(II)V, from 2 -/
theorem b2_2 (hG : Shp G) {v1 v2 v3 x1 x2 x3 x4 : Int} (hQ : ∀ o o' h', q_eqo o o' → Q o h' → Q o' h')
    (ex1 : c 9 1 = x1)
    (s1 : -2147483648 ≤ v3 ∧ v3 < 2147483648)
    (s2 : -2147483648 ≤ x1 ∧ x1 < 2147483648)
    (z3 : (x1 ≤ v3) → Q (.inl none) (G, c))
    (s4 : (v3 < x1) → 0 ≤ v3)
    (s5 : (v3 < x1) → v3 < 8)
    (ex2 : c 28 v3 = x2)
    (s7 : (v3 < x1) → -2147483648 ≤ v1 ∧ v1 < 2147483648)
    (k8 : (v3 < x1) → (v3 = v1) → T (d + 1) 2 2 [some (aR 132), some (aI v1), some (aI v2), some (aI (v3 + 1)), none, none] [] (G, c) Q)
    (ex3 : c 31 v3 = x3)
    (s10 : (v3 < x1) → (¬ v3 = v1) → -2147483648 ≤ x3 ∧ x3 < 2147483648)
    (k11 : (v3 < x1) → (¬ v3 = v1) → (¬ x3 = 1) → T (d + 1) 2 2 [some (aR 132), some (aI v1), some (aI v2), some (aI (v3 + 1)), none, none] [] (G, c) Q)
    (s12 : (v3 < x1) → (¬ v3 = v1) → (x3 = 1) → -2147483648 ≤ x2 ∧ x2 < 2147483648)
    (k13 : (v3 < x1) → (¬ v3 = v1) → (x3 = 1) → (x2 = (-1)) → T (d + 1) 2 2 [some (aR 132), some (aI v1), some (aI v2), some (aI (v3 + 1)), none, none] [] (G, c) Q)
    (s14 : (v3 < x1) → (¬ v3 = v1) → (x3 = 1) → (¬ x2 = (-1)) → 0 ≤ x2)
    (s15 : (v3 < x1) → (¬ v3 = v1) → (x3 = 1) → (¬ x2 = (-1)) → x2 < 6)
    (ex4 : c 134 x2 = x4)
    (s17 : (v3 < x1) → (¬ v3 = v1) → (x3 = 1) → (¬ x2 = (-1)) → -2147483648 ≤ x4 ∧ x4 < 2147483648)
    (s18 : (v3 < x1) → (¬ v3 = v1) → (x3 = 1) → (¬ x2 = (-1)) → -2147483648 ≤ v2 ∧ v2 < 2147483648)
    (k19 : (v3 < x1) → (¬ v3 = v1) → (x3 = 1) → (¬ x2 = (-1)) → (¬ x4 = v2) → T (d + 1) 2 2 [some (aR 132), some (aI v1), some (aI v2), some (aI (v3 + 1)), none, none] [] (G, c) Q)
    (k20 : (v3 < x1) → (¬ v3 = v1) → (x3 = 1) → (¬ x2 = (-1)) → (x4 = v2) → T (d + 1) 2 62 [some (aR 132), some (aI v1), some (aI v2), some (aI v3), none, some (aI 0)] [] (G, c) Q) :
    T (d + 1) 2 2 [some (aR 132), some (aI v1), some (aI v2), some (aI v3), none, none] [] (G, c) Q := by
  refine e_L (L' := [some (aR 132), some (aI v1), some (aI v2), some (aI v3), none, none]) (st' := [aI v3]) (show decode (mC 2) 2 = .ok (.iload_n 3, 1) by decide +kernel) rfl rfl ?_
  refine e_L (L' := [some (aR 132), some (aI v1), some (aI v2), some (aI v3), none, none]) (st' := [aR 132, aI v3]) (show decode (mC 2) 3 = .ok (.aload_n 0, 1) by decide +kernel) rfl (by show (if 132 = 0 then none else some (_, _)) = _; rw [if_neg (by decide)]) ?_
  refine e_getR (w := 9) (show decode (mC 2) 4 = .ok (.getfield 21, 3) by decide +kernel) (show pl 0 21 = some (0, 0, 0, 0) by decide +kernel) (by decide) (sh_ok hG (by decide +kernel)) (sh_rf hG (by decide +kernel)) ?_
  refine e_getIx (show decode (mC 2) 7 = .ok (.getfield 54, 3) by decide +kernel) (show pl 0 54 = some (0, 8, 1, 0) by decide +kernel) (by decide) (sh_ok hG (by decide +kernel)) ex1 ?_
  refine e_ge2 (t := 119) (show decode (mC 2) 10 = .ok (.if_icmp .ge 109, 3) by decide +kernel) (by decide) s1 s2 (fun p1 => ?_) (fun p1 => ?_)
  · exact e_vret (show decode (mC 2) 119 = .ok (.return_, 1) by decide +kernel) rfl (z3 p1)
  · refine e_L (L' := [some (aR 132), some (aI v1), some (aI v2), some (aI v3), none, none]) (st' := [aR 132]) (show decode (mC 2) 13 = .ok (.aload_n 0, 1) by decide +kernel) rfl (by show (if 132 = 0 then none else some (_, _)) = _; rw [if_neg (by decide)]) ?_
    refine e_getR (w := 27) (show decode (mC 2) 14 = .ok (.getfield 25, 3) by decide +kernel) (show pl 0 25 = some (0, 0, 1, 0) by decide +kernel) (by decide) (sh_ok hG (by decide +kernel)) (sh_rf hG (by decide +kernel)) ?_
    refine e_getR (w := 28) (show decode (mC 2) 17 = .ok (.getfield 40, 3) by decide +kernel) (show pl 0 40 = some (0, 4, 4, 0) by decide +kernel) (by decide) (sh_ok hG (by decide +kernel)) (sh_rf hG (by decide +kernel)) ?_
    refine e_L (L' := [some (aR 132), some (aI v1), some (aI v2), some (aI v3), none, none]) (st' := [aI v3, aR 28]) (show decode (mC 2) 20 = .ok (.iload_n 3, 1) by decide +kernel) rfl rfl ?_
    refine e_ialdx (n := 8) (show decode (mC 2) 21 = .ok (.iaload, 1) by decide +kernel) (sh_ok hG (by decide +kernel)) (sh_ln hG (by decide +kernel)) (by decide) (s4 p1) (s5 p1) ex2 ?_
    refine e_L (L' := [some (aR 132), some (aI v1), some (aI v2), some (aI v3), some (aI x2), none]) (st' := []) (show decode (mC 2) 22 = .ok (.istore 4, 2) by decide +kernel) rfl rfl ?_
    refine e_L (L' := [some (aR 132), some (aI v1), some (aI v2), some (aI v3), some (aI x2), none]) (st' := [aI v3]) (show decode (mC 2) 24 = .ok (.iload_n 3, 1) by decide +kernel) rfl rfl ?_
    refine e_L (L' := [some (aR 132), some (aI v1), some (aI v2), some (aI v3), some (aI x2), none]) (st' := [aI v1, aI v3]) (show decode (mC 2) 25 = .ok (.iload_n 1, 1) by decide +kernel) rfl rfl ?_
    refine e_eq2 (t := 113) (show decode (mC 2) 26 = .ok (.if_icmp .eq 87, 3) by decide +kernel) (by decide) s1 (s7 p1) (fun p2 => ?_) (fun p2 => ?_)
    · refine e_L (L' := [some (aR 132), some (aI v1), some (aI v2), some (aI (v3 + 1)), some (aI x2), none]) (st' := []) (show decode (mC 2) 113 = .ok (.iinc 3 1, 3) by decide +kernel) rfl rfl ?_
      refine e_go (t := 2) (show decode (mC 2) 116 = .ok (.goto (-114), 3) by decide +kernel) (by decide) ?_
      exact T_le hQ (leS (leS (leS (leS (leN (leS leE)))))) (k8 p1 p2)
    · refine e_L (L' := [some (aR 132), some (aI v1), some (aI v2), some (aI v3), some (aI x2), none]) (st' := [aR 132]) (show decode (mC 2) 29 = .ok (.aload_n 0, 1) by decide +kernel) rfl (by show (if 132 = 0 then none else some (_, _)) = _; rw [if_neg (by decide)]) ?_
      refine e_getR (w := 27) (show decode (mC 2) 30 = .ok (.getfield 25, 3) by decide +kernel) (show pl 0 25 = some (0, 0, 1, 0) by decide +kernel) (by decide) (sh_ok hG (by decide +kernel)) (sh_rf hG (by decide +kernel)) ?_
      refine e_getR (w := 31) (show decode (mC 2) 33 = .ok (.getfield 29, 3) by decide +kernel) (show pl 0 29 = some (0, 4, 7, 0) by decide +kernel) (by decide) (sh_ok hG (by decide +kernel)) (sh_rf hG (by decide +kernel)) ?_
      refine e_L (L' := [some (aR 132), some (aI v1), some (aI v2), some (aI v3), some (aI x2), none]) (st' := [aI v3, aR 31]) (show decode (mC 2) 36 = .ok (.iload_n 3, 1) by decide +kernel) rfl rfl ?_
      refine e_ialdx (n := 8) (show decode (mC 2) 37 = .ok (.iaload, 1) by decide +kernel) (sh_ok hG (by decide +kernel)) (sh_ln hG (by decide +kernel)) (by decide) (s4 p1) (s5 p1) ex3 ?_
      refine e_P (st' := [aI 1, aI x3]) (show decode (mC 2) 38 = .ok (.iconst 1, 1) by decide +kernel) rfl rfl rfl ?_
      refine e_ne2 (t := 113) (show decode (mC 2) 39 = .ok (.if_icmp .ne 74, 3) by decide +kernel) (by decide) (s10 p1 p2) (by decide) (fun p3 => ?_) (fun p3 => ?_)
      · refine e_L (L' := [some (aR 132), some (aI v1), some (aI v2), some (aI (v3 + 1)), some (aI x2), none]) (st' := []) (show decode (mC 2) 113 = .ok (.iinc 3 1, 3) by decide +kernel) rfl rfl ?_
        refine e_go (t := 2) (show decode (mC 2) 116 = .ok (.goto (-114), 3) by decide +kernel) (by decide) ?_
        exact T_le hQ (leS (leS (leS (leS (leN (leS leE)))))) (k11 p1 p2 p3)
      · refine e_L (L' := [some (aR 132), some (aI v1), some (aI v2), some (aI v3), some (aI x2), none]) (st' := [aI x2]) (show decode (mC 2) 42 = .ok (.iload 4, 2) by decide +kernel) rfl rfl ?_
        refine e_P (st' := [aI (-1), aI x2]) (show decode (mC 2) 44 = .ok (.iconst (-1), 1) by decide +kernel) rfl rfl rfl ?_
        refine e_eq2 (t := 113) (show decode (mC 2) 45 = .ok (.if_icmp .eq 68, 3) by decide +kernel) (by decide) (s12 p1 p2 p3) (by decide) (fun p4 => ?_) (fun p4 => ?_)
        · refine e_L (L' := [some (aR 132), some (aI v1), some (aI v2), some (aI (v3 + 1)), some (aI x2), none]) (st' := []) (show decode (mC 2) 113 = .ok (.iinc 3 1, 3) by decide +kernel) rfl rfl ?_
          refine e_go (t := 2) (show decode (mC 2) 116 = .ok (.goto (-114), 3) by decide +kernel) (by decide) ?_
          exact T_le hQ (leS (leS (leS (leS (leN (leS leE)))))) (k13 p1 p2 p3 p4)
        · refine e_L (L' := [some (aR 132), some (aI v1), some (aI v2), some (aI v3), some (aI x2), none]) (st' := [aR 132]) (show decode (mC 2) 48 = .ok (.aload_n 0, 1) by decide +kernel) rfl (by show (if 132 = 0 then none else some (_, _)) = _; rw [if_neg (by decide)]) ?_
          refine e_getR (w := 134) (show decode (mC 2) 49 = .ok (.getfield 15, 3) by decide +kernel) (show pl 0 15 = some (0, 0, 3, 0) by decide +kernel) (by decide) (sh_ok hG (by decide +kernel)) (sh_rf hG (by decide +kernel)) ?_
          refine e_L (L' := [some (aR 132), some (aI v1), some (aI v2), some (aI v3), some (aI x2), none]) (st' := [aI x2, aR 134]) (show decode (mC 2) 52 = .ok (.iload 4, 2) by decide +kernel) rfl rfl ?_
          refine e_ialdx (n := 6) (show decode (mC 2) 54 = .ok (.iaload, 1) by decide +kernel) (sh_ok hG (by decide +kernel)) (sh_ln hG (by decide +kernel)) (by decide) (s14 p1 p2 p3 p4) (s15 p1 p2 p3 p4) ex4 ?_
          refine e_L (L' := [some (aR 132), some (aI v1), some (aI v2), some (aI v3), some (aI x2), none]) (st' := [aI v2, aI x4]) (show decode (mC 2) 55 = .ok (.iload_n 2, 1) by decide +kernel) rfl rfl ?_
          refine e_ne2 (t := 113) (show decode (mC 2) 56 = .ok (.if_icmp .ne 57, 3) by decide +kernel) (by decide) (s17 p1 p2 p3 p4) (s18 p1 p2 p3 p4) (fun p5 => ?_) (fun p5 => ?_)
          · refine e_L (L' := [some (aR 132), some (aI v1), some (aI v2), some (aI (v3 + 1)), some (aI x2), none]) (st' := []) (show decode (mC 2) 113 = .ok (.iinc 3 1, 3) by decide +kernel) rfl rfl ?_
            refine e_go (t := 2) (show decode (mC 2) 116 = .ok (.goto (-114), 3) by decide +kernel) (by decide) ?_
            exact T_le hQ (leS (leS (leS (leS (leN (leS leE)))))) (k19 p1 p2 p3 p4 p5)
          · refine e_P (st' := [aI 0]) (show decode (mC 2) 59 = .ok (.iconst 0, 1) by decide +kernel) rfl rfl rfl ?_
            refine e_L (L' := [some (aR 132), some (aI v1), some (aI v2), some (aI v3), some (aI x2), some (aI 0)]) (st' := []) (show decode (mC 2) 60 = .ok (.istore 5, 2) by decide +kernel) rfl rfl ?_
            exact T_le hQ (leS (leS (leS (leS (leN (leS leE)))))) (k20 p1 p2 p3 p4 p5)
/-- SoulOffice$AppealSearch.stepOn(II)V, from 62 -/
theorem b2_62 (hG : Shp G) {v1 v2 v3 v5 x1 x2 : Int} (hQ : ∀ o o' h', q_eqo o o' → Q o h' → Q o' h')
    (ex1 : c 9 0 = x1)
    (s1 : -2147483648 ≤ v5 ∧ v5 < 2147483648)
    (s2 : -2147483648 ≤ x1 ∧ x1 < 2147483648)
    (k3 : (x1 ≤ v5) → T (d + 1) 2 2 [some (aR 132), some (aI v1), some (aI v2), some (aI (v3 + 1)), none, none] [] (G, c) Q)
    (s4 : (v5 < x1) → 0 ≤ v5)
    (s5 : (v5 < x1) → v5 < 6)
    (ex2 : c 134 v5 = x2)
    (s7 : (v5 < x1) → -2147483648 ≤ x2 ∧ x2 < 2147483648)
    (k8 : (v5 < x1) → (¬ x2 = 0) → T (d + 1) 2 62 [some (aR 132), some (aI v1), some (aI v2), some (aI v3), none, some (aI (v5 + 1))] [] (G, c) Q)
    (m9 : (v5 < x1) → (x2 = 0) → TM d 72 [aR 9, aI v3, aI v5] (G, c) (fun r h' => T (d + 1) 2 94 [some (aR 132), some (aI v1), some (aI v2), some (aI v3), none, some (aI v5)] (r.toList ++ []) h' Q)) :
    T (d + 1) 2 62 [some (aR 132), some (aI v1), some (aI v2), some (aI v3), none, some (aI v5)] [] (G, c) Q := by
  refine e_L (L' := [some (aR 132), some (aI v1), some (aI v2), some (aI v3), none, some (aI v5)]) (st' := [aI v5]) (show decode (mC 2) 62 = .ok (.iload 5, 2) by decide +kernel) rfl rfl ?_
  refine e_L (L' := [some (aR 132), some (aI v1), some (aI v2), some (aI v3), none, some (aI v5)]) (st' := [aR 132, aI v5]) (show decode (mC 2) 64 = .ok (.aload_n 0, 1) by decide +kernel) rfl (by show (if 132 = 0 then none else some (_, _)) = _; rw [if_neg (by decide)]) ?_
  refine e_getR (w := 9) (show decode (mC 2) 65 = .ok (.getfield 21, 3) by decide +kernel) (show pl 0 21 = some (0, 0, 0, 0) by decide +kernel) (by decide) (sh_ok hG (by decide +kernel)) (sh_rf hG (by decide +kernel)) ?_
  refine e_getIx (show decode (mC 2) 68 = .ok (.getfield 43, 3) by decide +kernel) (show pl 0 43 = some (0, 8, 0, 0) by decide +kernel) (by decide) (sh_ok hG (by decide +kernel)) ex1 ?_
  refine e_ge2 (t := 113) (show decode (mC 2) 71 = .ok (.if_icmp .ge 42, 3) by decide +kernel) (by decide) s1 s2 (fun p1 => ?_) (fun p1 => ?_)
  · refine e_L (L' := [some (aR 132), some (aI v1), some (aI v2), some (aI (v3 + 1)), none, some (aI v5)]) (st' := []) (show decode (mC 2) 113 = .ok (.iinc 3 1, 3) by decide +kernel) rfl rfl ?_
    refine e_go (t := 2) (show decode (mC 2) 116 = .ok (.goto (-114), 3) by decide +kernel) (by decide) ?_
    exact T_le hQ (leS (leS (leS (leS (leS (leN leE)))))) (k3 p1)
  · refine e_L (L' := [some (aR 132), some (aI v1), some (aI v2), some (aI v3), none, some (aI v5)]) (st' := [aR 132]) (show decode (mC 2) 74 = .ok (.aload_n 0, 1) by decide +kernel) rfl (by show (if 132 = 0 then none else some (_, _)) = _; rw [if_neg (by decide)]) ?_
    refine e_getR (w := 134) (show decode (mC 2) 75 = .ok (.getfield 15, 3) by decide +kernel) (show pl 0 15 = some (0, 0, 3, 0) by decide +kernel) (by decide) (sh_ok hG (by decide +kernel)) (sh_rf hG (by decide +kernel)) ?_
    refine e_L (L' := [some (aR 132), some (aI v1), some (aI v2), some (aI v3), none, some (aI v5)]) (st' := [aI v5, aR 134]) (show decode (mC 2) 78 = .ok (.iload 5, 2) by decide +kernel) rfl rfl ?_
    refine e_ialdx (n := 6) (show decode (mC 2) 80 = .ok (.iaload, 1) by decide +kernel) (sh_ok hG (by decide +kernel)) (sh_ln hG (by decide +kernel)) (by decide) (s4 p1) (s5 p1) ex2 ?_
    refine e_ne1 (t := 107) (show decode (mC 2) 81 = .ok (.ifCond .ne 26, 3) by decide +kernel) (by decide) (s7 p1) (fun p2 => ?_) (fun p2 => ?_)
    · refine e_L (L' := [some (aR 132), some (aI v1), some (aI v2), some (aI v3), none, some (aI (v5 + 1))]) (st' := []) (show decode (mC 2) 107 = .ok (.iinc 5 1, 3) by decide +kernel) rfl rfl ?_
      refine e_go (t := 62) (show decode (mC 2) 110 = .ok (.goto (-48), 3) by decide +kernel) (by decide) ?_
      exact (k8 p1 p2)
    · refine e_L (L' := [some (aR 132), some (aI v1), some (aI v2), some (aI v3), none, some (aI v5)]) (st' := [aR 132]) (show decode (mC 2) 84 = .ok (.aload_n 0, 1) by decide +kernel) rfl (by show (if 132 = 0 then none else some (_, _)) = _; rw [if_neg (by decide)]) ?_
      refine e_getR (w := 9) (show decode (mC 2) 85 = .ok (.getfield 21, 3) by decide +kernel) (show pl 0 21 = some (0, 0, 0, 0) by decide +kernel) (by decide) (sh_ok hG (by decide +kernel)) (sh_rf hG (by decide +kernel)) ?_
      refine e_L (L' := [some (aR 132), some (aI v1), some (aI v2), some (aI v3), none, some (aI v5)]) (st' := [aI v3, aR 9]) (show decode (mC 2) 88 = .ok (.iload_n 3, 1) by decide +kernel) rfl rfl ?_
      refine e_L (L' := [some (aR 132), some (aI v1), some (aI v2), some (aI v3), none, some (aI v5)]) (st' := [aI v5, aI v3, aR 9]) (show decode (mC 2) 89 = .ok (.iload 5, 2) by decide +kernel) rfl rfl ?_
      exact e_V (as := [aR 9, aI v3, aI v5]) (rest := []) (show decode (mC 2) 91 = .ok (.invokevirtual 34, 3) by decide +kernel) (by decide +kernel) (show (decide ((3 : Nat) = mA 72) && decide (72 < q_law)) = true by decide +kernel) rfl (show (0 : Nat) ≤ 8 by decide) (show (3 : Nat) ≤ mL 72 by decide +kernel) rfl (sh_ok hG (by decide +kernel)) (m9 p1 p2)
/-- SoulOffice$AppealSearch.stepOn(II)V, from 94 -/
theorem b2_94 (hG : Shp G) {v1 v2 v3 v5 u0 : Int}
    (s0 : -2147483648 ≤ u0 ∧ u0 < 2147483648)
    (k1 : (u0 = 0) → T (d + 1) 2 62 [some (aR 132), some (aI v1), some (aI v2), some (aI v3), none, some (aI (v5 + 1))] [] (G, c) Q)
    (s2 : (¬ u0 = 0) → 0 ≤ v5)
    (s3 : (¬ u0 = 0) → v5 < 6)
    (k4 : (¬ u0 = 0) → T (d + 1) 2 62 [some (aR 132), some (aI v1), some (aI v2), some (aI v3), none, some (aI (v5 + 1))] [] (G, (q_up c 134 v5 (v2 + 1))) Q) :
    T (d + 1) 2 94 [some (aR 132), some (aI v1), some (aI v2), some (aI v3), none, some (aI v5)] [aI u0] (G, c) Q := by
  refine e_eq1 (t := 107) (show decode (mC 2) 94 = .ok (.ifCond .eq 13, 3) by decide +kernel) (by decide) s0 (fun p1 => ?_) (fun p1 => ?_)
  · refine e_L (L' := [some (aR 132), some (aI v1), some (aI v2), some (aI v3), none, some (aI (v5 + 1))]) (st' := []) (show decode (mC 2) 107 = .ok (.iinc 5 1, 3) by decide +kernel) rfl rfl ?_
    refine e_go (t := 62) (show decode (mC 2) 110 = .ok (.goto (-48), 3) by decide +kernel) (by decide) ?_
    exact (k1 p1)
  · refine e_L (L' := [some (aR 132), some (aI v1), some (aI v2), some (aI v3), none, some (aI v5)]) (st' := [aR 132]) (show decode (mC 2) 97 = .ok (.aload_n 0, 1) by decide +kernel) rfl (by show (if 132 = 0 then none else some (_, _)) = _; rw [if_neg (by decide)]) ?_
    refine e_getR (w := 134) (show decode (mC 2) 98 = .ok (.getfield 15, 3) by decide +kernel) (show pl 0 15 = some (0, 0, 3, 0) by decide +kernel) (by decide) (sh_ok hG (by decide +kernel)) (sh_rf hG (by decide +kernel)) ?_
    refine e_L (L' := [some (aR 132), some (aI v1), some (aI v2), some (aI v3), none, some (aI v5)]) (st' := [aI v5, aR 134]) (show decode (mC 2) 101 = .ok (.iload 5, 2) by decide +kernel) rfl rfl ?_
    refine e_L (L' := [some (aR 132), some (aI v1), some (aI v2), some (aI v3), none, some (aI v5)]) (st' := [aI v2, aI v5, aR 134]) (show decode (mC 2) 103 = .ok (.iload_n 2, 1) by decide +kernel) rfl rfl ?_
    refine e_P (st' := [aI 1, aI v2, aI v5, aR 134]) (show decode (mC 2) 104 = .ok (.iconst 1, 1) by decide +kernel) rfl rfl rfl ?_
    refine e_P (st' := [aI (v2 + 1), aI v5, aR 134]) (show decode (mC 2) 105 = .ok (.iadd, 1) by decide +kernel) rfl rfl rfl ?_
    refine e_iast (n := 6) (show decode (mC 2) 106 = .ok (.iastore, 1) by decide +kernel) (sh_ok hG (by decide +kernel)) (sh_ln hG (by decide +kernel)) (by decide) (s2 p1) (s3 p1) ?_
    refine e_L (L' := [some (aR 132), some (aI v1), some (aI v2), some (aI v3), none, some (aI (v5 + 1))]) (st' := []) (show decode (mC 2) 107 = .ok (.iinc 5 1, 3) by decide +kernel) rfl rfl ?_
    refine e_go (t := 62) (show decode (mC 2) 110 = .ok (.goto (-48), 3) by decide +kernel) (by decide) ?_
    exact (k4 p1)
/-- SoulOffice$AppealSearch.findChanges(III)Z, from 0 -/
theorem b3_0 (hG : Shp G) {v1 v2 v3 x1 : Int} (hQ : ∀ o o' h', q_eqo o o' → Q o h' → Q o' h')
    (s0 : 0 ≤ v2)
    (s1 : v2 < 6)
    (ex1 : (q_uf (q_up (q_up c 132 5 v1) 132 6 v2) 133 (q_cp ((q_up (q_up c 132 5 v1) 132 6 v2) 13) ((q_up (q_up c 132 5 v1) 132 6 v2) 133) 0 0 6)) 133 v2 = x1)
    (m3 : TM d 4 [aR 132, aI 0, aI (v3 - 1)] (G, (q_up (q_uf (q_up (q_up c 132 5 v1) 132 6 v2) 133 (q_cp ((q_up (q_up c 132 5 v1) 132 6 v2) 13) ((q_up (q_up c 132 5 v1) 132 6 v2) 133) 0 0 6)) 133 v2 (x1 - 1))) (fun r h' => T (d + 1) 3 46 [none, none, none, none] (r.toList ++ []) h' Q)) :
    T (d + 1) 3 0 [some (aR 132), some (aI v1), some (aI v2), some (aI v3)] [] (G, c) Q := by
  refine e_L (L' := [some (aR 132), some (aI v1), some (aI v2), some (aI v3)]) (st' := [aR 132]) (show decode (mC 3) 0 = .ok (.aload_n 0, 1) by decide +kernel) rfl (by show (if 132 = 0 then none else some (_, _)) = _; rw [if_neg (by decide)]) ?_
  refine e_L (L' := [some (aR 132), some (aI v1), some (aI v2), some (aI v3)]) (st' := [aI v1, aR 132]) (show decode (mC 3) 1 = .ok (.iload_n 1, 1) by decide +kernel) rfl rfl ?_
  refine e_putI (show decode (mC 3) 2 = .ok (.putfield 57, 3) by decide +kernel) (show pl 0 57 = some (0, 0, 5, 0) by decide +kernel) (by decide) (sh_ok hG (by decide +kernel)) ?_
  refine e_L (L' := [some (aR 132), some (aI v1), some (aI v2), some (aI v3)]) (st' := [aR 132]) (show decode (mC 3) 5 = .ok (.aload_n 0, 1) by decide +kernel) rfl (by show (if 132 = 0 then none else some (_, _)) = _; rw [if_neg (by decide)]) ?_
  refine e_L (L' := [some (aR 132), some (aI v1), some (aI v2), some (aI v3)]) (st' := [aI v2, aR 132]) (show decode (mC 3) 6 = .ok (.iload_n 2, 1) by decide +kernel) rfl rfl ?_
  refine e_putI (show decode (mC 3) 7 = .ok (.putfield 60, 3) by decide +kernel) (show pl 0 60 = some (0, 0, 6, 0) by decide +kernel) (by decide) (sh_ok hG (by decide +kernel)) ?_
  refine e_L (L' := [some (aR 132), some (aI v1), some (aI v2), some (aI v3)]) (st' := [aR 132]) (show decode (mC 3) 10 = .ok (.aload_n 0, 1) by decide +kernel) rfl (by show (if 132 = 0 then none else some (_, _)) = _; rw [if_neg (by decide)]) ?_
  refine e_getR (w := 9) (show decode (mC 3) 11 = .ok (.getfield 21, 3) by decide +kernel) (show pl 0 21 = some (0, 0, 0, 0) by decide +kernel) (by decide) (sh_ok hG (by decide +kernel)) (sh_rf hG (by decide +kernel)) ?_
  refine e_getR (w := 13) (show decode (mC 3) 14 = .ok (.getfield 63, 3) by decide +kernel) (show pl 0 63 = some (0, 8, 6, 0) by decide +kernel) (by decide) (sh_ok hG (by decide +kernel)) (sh_rf hG (by decide +kernel)) ?_
  refine e_P (st' := [aI 0, aR 13]) (show decode (mC 3) 17 = .ok (.iconst 0, 1) by decide +kernel) rfl rfl rfl ?_
  refine e_L (L' := [some (aR 132), some (aI v1), some (aI v2), some (aI v3)]) (st' := [aR 132, aI 0, aR 13]) (show decode (mC 3) 18 = .ok (.aload_n 0, 1) by decide +kernel) rfl (by show (if 132 = 0 then none else some (_, _)) = _; rw [if_neg (by decide)]) ?_
  refine e_getR (w := 133) (show decode (mC 3) 19 = .ok (.getfield 9, 3) by decide +kernel) (show pl 0 9 = some (0, 0, 2, 0) by decide +kernel) (by decide) (sh_ok hG (by decide +kernel)) (sh_rf hG (by decide +kernel)) ?_
  refine e_P (st' := [aI 0, aR 133, aI 0, aR 13]) (show decode (mC 3) 22 = .ok (.iconst 0, 1) by decide +kernel) rfl rfl rfl ?_
  refine e_P (st' := [aI 6, aI 0, aR 133, aI 0, aR 13]) (show decode (mC 3) 23 = .ok (.bipush 6, 2) by decide +kernel) rfl rfl rfl ?_
  refine e_acp (n := 6) (n2 := 6) (show decode (mC 3) 25 = .ok (.invokestatic 66, 3) by decide +kernel) (show pl 0 66 = some (10, 0, 0, 0) by decide +kernel) (Or.inl ⟨(sh_ok hG (by decide +kernel)), (sh_ok hG (by decide +kernel))⟩) (sh_ln hG (by decide +kernel)) (sh_ln hG (by decide +kernel)) (by decide) (show (0 : Nat) ≤ 20 by decide) ?_
  refine e_L (L' := [some (aR 132), some (aI v1), some (aI v2), some (aI v3)]) (st' := [aR 132]) (show decode (mC 3) 28 = .ok (.aload_n 0, 1) by decide +kernel) rfl (by show (if 132 = 0 then none else some (_, _)) = _; rw [if_neg (by decide)]) ?_
  refine e_getR (w := 133) (show decode (mC 3) 29 = .ok (.getfield 9, 3) by decide +kernel) (show pl 0 9 = some (0, 0, 2, 0) by decide +kernel) (by decide) (sh_ok hG (by decide +kernel)) (sh_rf hG (by decide +kernel)) ?_
  refine e_L (L' := [some (aR 132), some (aI v1), some (aI v2), some (aI v3)]) (st' := [aI v2, aR 133]) (show decode (mC 3) 32 = .ok (.iload_n 2, 1) by decide +kernel) rfl rfl ?_
  refine e_P (st' := [aI v2, aR 133, aI v2, aR 133]) (show decode (mC 3) 33 = .ok (.dup2, 1) by decide +kernel) rfl rfl rfl ?_
  refine e_ialdx (n := 6) (show decode (mC 3) 34 = .ok (.iaload, 1) by decide +kernel) (sh_ok hG (by decide +kernel)) (sh_ln hG (by decide +kernel)) (by decide) s0 s1 ex1 ?_
  refine e_P (st' := [aI 1, aI x1, aI v2, aR 133]) (show decode (mC 3) 35 = .ok (.iconst 1, 1) by decide +kernel) rfl rfl rfl ?_
  refine e_P (st' := [aI (x1 - 1), aI v2, aR 133]) (show decode (mC 3) 36 = .ok (.isub, 1) by decide +kernel) rfl rfl rfl ?_
  refine e_iast (n := 6) (show decode (mC 3) 37 = .ok (.iastore, 1) by decide +kernel) (sh_ok hG (by decide +kernel)) (sh_ln hG (by decide +kernel)) (by decide) s0 s1 ?_
  refine e_L (L' := [some (aR 132), some (aI v1), some (aI v2), some (aI v3)]) (st' := [aR 132]) (show decode (mC 3) 38 = .ok (.aload_n 0, 1) by decide +kernel) rfl (by show (if 132 = 0 then none else some (_, _)) = _; rw [if_neg (by decide)]) ?_
  refine e_P (st' := [aI 0, aR 132]) (show decode (mC 3) 39 = .ok (.iconst 0, 1) by decide +kernel) rfl rfl rfl ?_
  refine e_L (L' := [some (aR 132), some (aI v1), some (aI v2), some (aI v3)]) (st' := [aI v3, aI 0, aR 132]) (show decode (mC 3) 40 = .ok (.iload_n 3, 1) by decide +kernel) rfl rfl ?_
  refine e_P (st' := [aI 1, aI v3, aI 0, aR 132]) (show decode (mC 3) 41 = .ok (.iconst 1, 1) by decide +kernel) rfl rfl rfl ?_
  refine e_P (st' := [aI (v3 - 1), aI 0, aR 132]) (show decode (mC 3) 42 = .ok (.isub, 1) by decide +kernel) rfl rfl rfl ?_
  exact e_V (as := [aR 132, aI 0, aI (v3 - 1)]) (rest := []) (show decode (mC 3) 43 = .ok (.invokevirtual 72, 3) by decide +kernel) (by decide +kernel) (show (decide ((3 : Nat) = mA 4) && decide (4 < q_law)) = true by decide +kernel) rfl (show (0 : Nat) ≤ 8 by decide) (show (3 : Nat) ≤ mL 4 by decide +kernel) rfl (sh_ok hG (by decide +kernel)) (tm_le hQ (leN (leN (leN (leN leE)))) m3)
/-- SoulOffice$AppealSearch.findChanges(III)Z, from 46 -/
theorem b3_46 (hG : Shp G) {u0 : Int}
    (s0 : u0 = 0 ∨ u0 = 1)
    (z1 : Q (.inl (some (aI u0))) (G, c)) :
    T (d + 1) 3 46 [none, none, none, none] [aI u0] (G, c) Q := by
  exact e_zret (show decode (mC 3) 46 = .ok (.ireturn, 1) by decide +kernel) rfl s0 z1
/-- SoulOffice$AppealSearch.choose(II)Z, from 0 -/
theorem b4_0 (hG : Shp G) {v1 v2 x1 x2 x3 x4 x5 x6 : Int} (hQ : ∀ o o' h', q_eqo o o' → Q o h' → Q o' h')
    (ex1 : c 9 1 = x1)
    (s1 : -2147483648 ≤ v1 ∧ v1 < 2147483648)
    (s2 : -2147483648 ≤ x1 ∧ x1 < 2147483648)
    (z3 : (x1 ≤ v1) → Q (.inl (some (aI 1))) (G, c))
    (ex2 : c 132 5 = x2)
    (s5 : (v1 < x1) → (v1 < 8) → -2147483648 ≤ x2 ∧ x2 < 2147483648)
    (s6 : (v1 < x1) → (v1 < 8) → (¬ v1 = x2) → 0 ≤ v1)
    (s7 : (v1 < x1) → (v1 < 8) → (¬ v1 = x2) → v1 < 8)
    (ex3 : c 31 v1 = x3)
    (s9 : (v1 < x1) → (v1 < 8) → (¬ v1 = x2) → -2147483648 ≤ x3 ∧ x3 < 2147483648)
    (ex4 : c 28 v1 = x4)
    (m11 : (v1 < x1) → (v1 < 8) → (¬ v1 = x2) → (¬ x3 = 0) → TM d 5 [aR 132, aI v1, aI x4, aI v2] (G, c) (fun r h' => T (d + 1) 4 81 [some (aR 132), some (aI v1), some (aI v2), none] (r.toList ++ []) h' Q))
    (ex5 : c 28 v1 = x5)
    (m13 : (v1 < x1) → (v1 < 8) → (¬ v1 = x2) → (x3 = 0) → TM d 268 [aR 132, aI v1, aI x5, aI v2] (G, c) (fun r h' => T (d + 1) 4 65 [none, none, none, none] (r.toList ++ []) h' Q))
    (ex6 : c 132 6 = x6)
    (m15 : (v1 < x1) → (v1 < 8) → (v1 = x2) → TM d 268 [aR 132, aI v1, aI x6, aI v2] (G, c) (fun r h' => T (d + 1) 4 37 [none, none, none, none] (r.toList ++ []) h' Q))
    (z16 : (v1 < x1) → (8 ≤ v1) → Q (.inl (some (aI 1))) (G, c)) :
    T (d + 1) 4 0 [some (aR 132), some (aI v1), some (aI v2), none] [] (G, c) Q := by
  refine e_L (L' := [some (aR 132), some (aI v1), some (aI v2), none]) (st' := [aI v1]) (show decode (mC 4) 0 = .ok (.iload_n 1, 1) by decide +kernel) rfl rfl ?_
  refine e_L (L' := [some (aR 132), some (aI v1), some (aI v2), none]) (st' := [aR 132, aI v1]) (show decode (mC 4) 1 = .ok (.aload_n 0, 1) by decide +kernel) rfl (by show (if 132 = 0 then none else some (_, _)) = _; rw [if_neg (by decide)]) ?_
  refine e_getR (w := 9) (show decode (mC 4) 2 = .ok (.getfield 21, 3) by decide +kernel) (show pl 0 21 = some (0, 0, 0, 0) by decide +kernel) (by decide) (sh_ok hG (by decide +kernel)) (sh_rf hG (by decide +kernel)) ?_
  refine e_getIx (show decode (mC 4) 5 = .ok (.getfield 54, 3) by decide +kernel) (show pl 0 54 = some (0, 8, 1, 0) by decide +kernel) (by decide) (sh_ok hG (by decide +kernel)) ex1 ?_
  refine e_ge2 (t := 17) (show decode (mC 4) 8 = .ok (.if_icmp .ge 9, 3) by decide +kernel) (by decide) s1 s2 (fun p1 => ?_) (fun p1 => ?_)
  · refine e_P (st' := [aI 1]) (show decode (mC 4) 17 = .ok (.iconst 1, 1) by decide +kernel) rfl rfl rfl ?_
    exact e_zret (show decode (mC 4) 18 = .ok (.ireturn, 1) by decide +kernel) rfl (by decide) (z3 p1)
  · refine e_L (L' := [some (aR 132), some (aI v1), some (aI v2), none]) (st' := [aI v1]) (show decode (mC 4) 11 = .ok (.iload_n 1, 1) by decide +kernel) rfl rfl ?_
    refine e_P (st' := [aI 8, aI v1]) (show decode (mC 4) 12 = .ok (.bipush 8, 2) by decide +kernel) rfl rfl rfl ?_
    refine e_lt2 (t := 19) (show decode (mC 4) 14 = .ok (.if_icmp .lt 5, 3) by decide +kernel) (by decide) s1 (by decide) (fun p2 => ?_) (fun p2 => ?_)
    · refine e_L (L' := [some (aR 132), some (aI v1), some (aI v2), none]) (st' := [aI v1]) (show decode (mC 4) 19 = .ok (.iload_n 1, 1) by decide +kernel) rfl rfl ?_
      refine e_L (L' := [some (aR 132), some (aI v1), some (aI v2), none]) (st' := [aR 132, aI v1]) (show decode (mC 4) 20 = .ok (.aload_n 0, 1) by decide +kernel) rfl (by show (if 132 = 0 then none else some (_, _)) = _; rw [if_neg (by decide)]) ?_
      refine e_getIx (show decode (mC 4) 21 = .ok (.getfield 57, 3) by decide +kernel) (show pl 0 57 = some (0, 0, 5, 0) by decide +kernel) (by decide) (sh_ok hG (by decide +kernel)) ex2 ?_
      refine e_ne2 (t := 38) (show decode (mC 4) 24 = .ok (.if_icmp .ne 14, 3) by decide +kernel) (by decide) s1 (s5 p1 p2) (fun p3 => ?_) (fun p3 => ?_)
      · refine e_L (L' := [some (aR 132), some (aI v1), some (aI v2), none]) (st' := [aR 132]) (show decode (mC 4) 38 = .ok (.aload_n 0, 1) by decide +kernel) rfl (by show (if 132 = 0 then none else some (_, _)) = _; rw [if_neg (by decide)]) ?_
        refine e_getR (w := 27) (show decode (mC 4) 39 = .ok (.getfield 25, 3) by decide +kernel) (show pl 0 25 = some (0, 0, 1, 0) by decide +kernel) (by decide) (sh_ok hG (by decide +kernel)) (sh_rf hG (by decide +kernel)) ?_
        refine e_getR (w := 31) (show decode (mC 4) 42 = .ok (.getfield 29, 3) by decide +kernel) (show pl 0 29 = some (0, 4, 7, 0) by decide +kernel) (by decide) (sh_ok hG (by decide +kernel)) (sh_rf hG (by decide +kernel)) ?_
        refine e_L (L' := [some (aR 132), some (aI v1), some (aI v2), none]) (st' := [aI v1, aR 31]) (show decode (mC 4) 45 = .ok (.iload_n 1, 1) by decide +kernel) rfl rfl ?_
        refine e_ialdx (n := 8) (show decode (mC 4) 46 = .ok (.iaload, 1) by decide +kernel) (sh_ok hG (by decide +kernel)) (sh_ln hG (by decide +kernel)) (by decide) (s6 p1 p2 p3) (s7 p1 p2 p3) ex3 ?_
        refine e_ne1 (t := 66) (show decode (mC 4) 47 = .ok (.ifCond .ne 19, 3) by decide +kernel) (by decide) (s9 p1 p2 p3) (fun p4 => ?_) (fun p4 => ?_)
        · refine e_L (L' := [some (aR 132), some (aI v1), some (aI v2), none]) (st' := [aR 132]) (show decode (mC 4) 66 = .ok (.aload_n 0, 1) by decide +kernel) rfl (by show (if 132 = 0 then none else some (_, _)) = _; rw [if_neg (by decide)]) ?_
          refine e_L (L' := [some (aR 132), some (aI v1), some (aI v2), none]) (st' := [aI v1, aR 132]) (show decode (mC 4) 67 = .ok (.iload_n 1, 1) by decide +kernel) rfl rfl ?_
          refine e_L (L' := [some (aR 132), some (aI v1), some (aI v2), none]) (st' := [aR 132, aI v1, aR 132]) (show decode (mC 4) 68 = .ok (.aload_n 0, 1) by decide +kernel) rfl (by show (if 132 = 0 then none else some (_, _)) = _; rw [if_neg (by decide)]) ?_
          refine e_getR (w := 27) (show decode (mC 4) 69 = .ok (.getfield 25, 3) by decide +kernel) (show pl 0 25 = some (0, 0, 1, 0) by decide +kernel) (by decide) (sh_ok hG (by decide +kernel)) (sh_rf hG (by decide +kernel)) ?_
          refine e_getR (w := 28) (show decode (mC 4) 72 = .ok (.getfield 40, 3) by decide +kernel) (show pl 0 40 = some (0, 4, 4, 0) by decide +kernel) (by decide) (sh_ok hG (by decide +kernel)) (sh_rf hG (by decide +kernel)) ?_
          refine e_L (L' := [some (aR 132), some (aI v1), some (aI v2), none]) (st' := [aI v1, aR 28, aI v1, aR 132]) (show decode (mC 4) 75 = .ok (.iload_n 1, 1) by decide +kernel) rfl rfl ?_
          refine e_ialdx (n := 8) (show decode (mC 4) 76 = .ok (.iaload, 1) by decide +kernel) (sh_ok hG (by decide +kernel)) (sh_ln hG (by decide +kernel)) (by decide) (s6 p1 p2 p3) (s7 p1 p2 p3) ex4 ?_
          refine e_L (L' := [some (aR 132), some (aI v1), some (aI v2), none]) (st' := [aI v2, aI x4, aI v1, aR 132]) (show decode (mC 4) 77 = .ok (.iload_n 2, 1) by decide +kernel) rfl rfl ?_
          exact e_V (as := [aR 132, aI v1, aI x4, aI v2]) (rest := []) (show decode (mC 4) 78 = .ok (.invokevirtual 79, 3) by decide +kernel) (by decide +kernel) (show (decide ((4 : Nat) = mA 5) && decide (5 < q_law)) = true by decide +kernel) rfl (show (0 : Nat) ≤ 8 by decide) (show (4 : Nat) ≤ mL 5 by decide +kernel) rfl (sh_ok hG (by decide +kernel)) (m11 p1 p2 p3 p4)
        · refine e_L (L' := [some (aR 132), some (aI v1), some (aI v2), none]) (st' := [aR 132]) (show decode (mC 4) 50 = .ok (.aload_n 0, 1) by decide +kernel) rfl (by show (if 132 = 0 then none else some (_, _)) = _; rw [if_neg (by decide)]) ?_
          refine e_L (L' := [some (aR 132), some (aI v1), some (aI v2), none]) (st' := [aI v1, aR 132]) (show decode (mC 4) 51 = .ok (.iload_n 1, 1) by decide +kernel) rfl rfl ?_
          refine e_L (L' := [some (aR 132), some (aI v1), some (aI v2), none]) (st' := [aR 132, aI v1, aR 132]) (show decode (mC 4) 52 = .ok (.aload_n 0, 1) by decide +kernel) rfl (by show (if 132 = 0 then none else some (_, _)) = _; rw [if_neg (by decide)]) ?_
          refine e_getR (w := 27) (show decode (mC 4) 53 = .ok (.getfield 25, 3) by decide +kernel) (show pl 0 25 = some (0, 0, 1, 0) by decide +kernel) (by decide) (sh_ok hG (by decide +kernel)) (sh_rf hG (by decide +kernel)) ?_
          refine e_getR (w := 28) (show decode (mC 4) 56 = .ok (.getfield 40, 3) by decide +kernel) (show pl 0 40 = some (0, 4, 4, 0) by decide +kernel) (by decide) (sh_ok hG (by decide +kernel)) (sh_rf hG (by decide +kernel)) ?_
          refine e_L (L' := [some (aR 132), some (aI v1), some (aI v2), none]) (st' := [aI v1, aR 28, aI v1, aR 132]) (show decode (mC 4) 59 = .ok (.iload_n 1, 1) by decide +kernel) rfl rfl ?_
          refine e_ialdx (n := 8) (show decode (mC 4) 60 = .ok (.iaload, 1) by decide +kernel) (sh_ok hG (by decide +kernel)) (sh_ln hG (by decide +kernel)) (by decide) (s6 p1 p2 p3) (s7 p1 p2 p3) ex5 ?_
          refine e_L (L' := [some (aR 132), some (aI v1), some (aI v2), none]) (st' := [aI v2, aI x5, aI v1, aR 132]) (show decode (mC 4) 61 = .ok (.iload_n 2, 1) by decide +kernel) rfl rfl ?_
          exact e_V (as := [aR 132, aI v1, aI x5, aI v2]) (rest := []) (show decode (mC 4) 62 = .ok (.invokevirtual 75, 3) by decide +kernel) (by decide +kernel) (show (decide ((4 : Nat) = mA 268) && decide (268 < q_law)) = true by decide +kernel) rfl (show (0 : Nat) ≤ 8 by decide) (show (4 : Nat) ≤ mL 268 by decide +kernel) rfl (sh_ok hG (by decide +kernel)) (tm_le hQ (leN (leN (leN (leS leE)))) (m13 p1 p2 p3 p4))
      · refine e_L (L' := [some (aR 132), some (aI v1), some (aI v2), none]) (st' := [aR 132]) (show decode (mC 4) 27 = .ok (.aload_n 0, 1) by decide +kernel) rfl (by show (if 132 = 0 then none else some (_, _)) = _; rw [if_neg (by decide)]) ?_
        refine e_L (L' := [some (aR 132), some (aI v1), some (aI v2), none]) (st' := [aI v1, aR 132]) (show decode (mC 4) 28 = .ok (.iload_n 1, 1) by decide +kernel) rfl rfl ?_
        refine e_L (L' := [some (aR 132), some (aI v1), some (aI v2), none]) (st' := [aR 132, aI v1, aR 132]) (show decode (mC 4) 29 = .ok (.aload_n 0, 1) by decide +kernel) rfl (by show (if 132 = 0 then none else some (_, _)) = _; rw [if_neg (by decide)]) ?_
        refine e_getIx (show decode (mC 4) 30 = .ok (.getfield 60, 3) by decide +kernel) (show pl 0 60 = some (0, 0, 6, 0) by decide +kernel) (by decide) (sh_ok hG (by decide +kernel)) ex6 ?_
        refine e_L (L' := [some (aR 132), some (aI v1), some (aI v2), none]) (st' := [aI v2, aI x6, aI v1, aR 132]) (show decode (mC 4) 33 = .ok (.iload_n 2, 1) by decide +kernel) rfl rfl ?_
        exact e_V (as := [aR 132, aI v1, aI x6, aI v2]) (rest := []) (show decode (mC 4) 34 = .ok (.invokevirtual 75, 3) by decide +kernel) (by decide +kernel) (show (decide ((4 : Nat) = mA 268) && decide (268 < q_law)) = true by decide +kernel) rfl (show (0 : Nat) ≤ 8 by decide) (show (4 : Nat) ≤ mL 268 by decide +kernel) rfl (sh_ok hG (by decide +kernel)) (tm_le hQ (leN (leN (leN (leS leE)))) (m15 p1 p2 p3))
    · refine e_P (st' := [aI 1]) (show decode (mC 4) 17 = .ok (.iconst 1, 1) by decide +kernel) rfl rfl rfl ?_
      exact e_zret (show decode (mC 4) 18 = .ok (.ireturn, 1) by decide +kernel) rfl (by decide) (z16 p1 p2)
/-- SoulOffice$AppealSearch.choose(II)Z, from 37 -/
theorem b4_37 (hG : Shp G) {u0 : Int}
    (s0 : u0 = 0 ∨ u0 = 1)
    (z1 : Q (.inl (some (aI u0))) (G, c)) :
    T (d + 1) 4 37 [none, none, none, none] [aI u0] (G, c) Q := by
  exact e_zret (show decode (mC 4) 37 = .ok (.ireturn, 1) by decide +kernel) rfl s0 z1
/-- SoulOffice$AppealSearch.choose(II)Z, from 65 -/
theorem b4_65 (hG : Shp G) {u0 : Int}
    (s0 : u0 = 0 ∨ u0 = 1)
    (z1 : Q (.inl (some (aI u0))) (G, c)) :
    T (d + 1) 4 65 [none, none, none, none] [aI u0] (G, c) Q := by
  exact e_zret (show decode (mC 4) 65 = .ok (.ireturn, 1) by decide +kernel) rfl s0 z1
/-- SoulOffice$AppealSearch.choose(II)Z, from 81 -/
theorem b4_81 (hG : Shp G) {v1 v2 u0 : Int}
    (s0 : -2147483648 ≤ u0 ∧ u0 < 2147483648)
    (k1 : (u0 = 0) → T (d + 1) 4 88 [some (aR 132), some (aI v1), some (aI v2), some (aI 0)] [] (G, c) Q)
    (z2 : (¬ u0 = 0) → Q (.inl (some (aI 1))) (G, c)) :
    T (d + 1) 4 81 [some (aR 132), some (aI v1), some (aI v2), none] [aI u0] (G, c) Q := by
  refine e_eq1 (t := 86) (show decode (mC 4) 81 = .ok (.ifCond .eq 5, 3) by decide +kernel) (by decide) s0 (fun p1 => ?_) (fun p1 => ?_)
  · refine e_P (st' := [aI 0]) (show decode (mC 4) 86 = .ok (.iconst 0, 1) by decide +kernel) rfl rfl rfl ?_
    refine e_L (L' := [some (aR 132), some (aI v1), some (aI v2), some (aI 0)]) (st' := []) (show decode (mC 4) 87 = .ok (.istore_n 3, 1) by decide +kernel) rfl rfl ?_
    exact (k1 p1)
  · refine e_P (st' := [aI 1]) (show decode (mC 4) 84 = .ok (.iconst 1, 1) by decide +kernel) rfl rfl rfl ?_
    exact e_zret (show decode (mC 4) 85 = .ok (.ireturn, 1) by decide +kernel) rfl (by decide) (z2 p1)
/-- SoulOffice$AppealSearch.choose(II)Z, from 88 -/
theorem b4_88 (hG : Shp G) {v1 v2 v3 x1 x2 : Int}
    (ex1 : c 9 0 = x1)
    (s1 : -2147483648 ≤ v3 ∧ v3 < 2147483648)
    (s2 : -2147483648 ≤ x1 ∧ x1 < 2147483648)
    (z3 : (x1 ≤ v3) → Q (.inl (some (aI 0))) (G, c))
    (s4 : (v3 < x1) → -2147483648 ≤ v2 ∧ v2 < 2147483648)
    (z5 : (v3 < x1) → (v2 ≤ 0) → Q (.inl (some (aI 0))) (G, c))
    (s6 : (v3 < x1) → (0 < v2) → 0 ≤ v1)
    (s7 : (v3 < x1) → (0 < v2) → v1 < 8)
    (ex2 : c 28 v1 = x2)
    (s9 : (v3 < x1) → (0 < v2) → -2147483648 ≤ x2 ∧ x2 < 2147483648)
    (k10 : (v3 < x1) → (0 < v2) → (v3 = x2) → T (d + 1) 4 88 [some (aR 132), some (aI v1), some (aI v2), some (aI (v3 + 1))] [] (G, c) Q)
    (m11 : (v3 < x1) → (0 < v2) → (¬ v3 = x2) → TM d 72 [aR 9, aI v1, aI v3] (G, c) (fun r h' => T (d + 1) 4 125 [some (aR 132), some (aI v1), some (aI v2), some (aI v3)] (r.toList ++ []) h' Q)) :
    T (d + 1) 4 88 [some (aR 132), some (aI v1), some (aI v2), some (aI v3)] [] (G, c) Q := by
  refine e_L (L' := [some (aR 132), some (aI v1), some (aI v2), some (aI v3)]) (st' := [aI v3]) (show decode (mC 4) 88 = .ok (.iload_n 3, 1) by decide +kernel) rfl rfl ?_
  refine e_L (L' := [some (aR 132), some (aI v1), some (aI v2), some (aI v3)]) (st' := [aR 132, aI v3]) (show decode (mC 4) 89 = .ok (.aload_n 0, 1) by decide +kernel) rfl (by show (if 132 = 0 then none else some (_, _)) = _; rw [if_neg (by decide)]) ?_
  refine e_getR (w := 9) (show decode (mC 4) 90 = .ok (.getfield 21, 3) by decide +kernel) (show pl 0 21 = some (0, 0, 0, 0) by decide +kernel) (by decide) (sh_ok hG (by decide +kernel)) (sh_rf hG (by decide +kernel)) ?_
  refine e_getIx (show decode (mC 4) 93 = .ok (.getfield 43, 3) by decide +kernel) (show pl 0 43 = some (0, 8, 0, 0) by decide +kernel) (by decide) (sh_ok hG (by decide +kernel)) ex1 ?_
  refine e_ge2 (t := 148) (show decode (mC 4) 96 = .ok (.if_icmp .ge 52, 3) by decide +kernel) (by decide) s1 s2 (fun p1 => ?_) (fun p1 => ?_)
  · refine e_P (st' := [aI 0]) (show decode (mC 4) 148 = .ok (.iconst 0, 1) by decide +kernel) rfl rfl rfl ?_
    exact e_zret (show decode (mC 4) 149 = .ok (.ireturn, 1) by decide +kernel) rfl (by decide) (z3 p1)
  · refine e_L (L' := [some (aR 132), some (aI v1), some (aI v2), some (aI v3)]) (st' := [aI v2]) (show decode (mC 4) 99 = .ok (.iload_n 2, 1) by decide +kernel) rfl rfl ?_
    refine e_le1 (t := 148) (show decode (mC 4) 100 = .ok (.ifCond .le 48, 3) by decide +kernel) (by decide) (s4 p1) (fun p2 => ?_) (fun p2 => ?_)
    · refine e_P (st' := [aI 0]) (show decode (mC 4) 148 = .ok (.iconst 0, 1) by decide +kernel) rfl rfl rfl ?_
      exact e_zret (show decode (mC 4) 149 = .ok (.ireturn, 1) by decide +kernel) rfl (by decide) (z5 p1 p2)
    · refine e_L (L' := [some (aR 132), some (aI v1), some (aI v2), some (aI v3)]) (st' := [aI v3]) (show decode (mC 4) 103 = .ok (.iload_n 3, 1) by decide +kernel) rfl rfl ?_
      refine e_L (L' := [some (aR 132), some (aI v1), some (aI v2), some (aI v3)]) (st' := [aR 132, aI v3]) (show decode (mC 4) 104 = .ok (.aload_n 0, 1) by decide +kernel) rfl (by show (if 132 = 0 then none else some (_, _)) = _; rw [if_neg (by decide)]) ?_
      refine e_getR (w := 27) (show decode (mC 4) 105 = .ok (.getfield 25, 3) by decide +kernel) (show pl 0 25 = some (0, 0, 1, 0) by decide +kernel) (by decide) (sh_ok hG (by decide +kernel)) (sh_rf hG (by decide +kernel)) ?_
      refine e_getR (w := 28) (show decode (mC 4) 108 = .ok (.getfield 40, 3) by decide +kernel) (show pl 0 40 = some (0, 4, 4, 0) by decide +kernel) (by decide) (sh_ok hG (by decide +kernel)) (sh_rf hG (by decide +kernel)) ?_
      refine e_L (L' := [some (aR 132), some (aI v1), some (aI v2), some (aI v3)]) (st' := [aI v1, aR 28, aI v3]) (show decode (mC 4) 111 = .ok (.iload_n 1, 1) by decide +kernel) rfl rfl ?_
      refine e_ialdx (n := 8) (show decode (mC 4) 112 = .ok (.iaload, 1) by decide +kernel) (sh_ok hG (by decide +kernel)) (sh_ln hG (by decide +kernel)) (by decide) (s6 p1 p2) (s7 p1 p2) ex2 ?_
      refine e_eq2 (t := 142) (show decode (mC 4) 113 = .ok (.if_icmp .eq 29, 3) by decide +kernel) (by decide) s1 (s9 p1 p2) (fun p3 => ?_) (fun p3 => ?_)
      · refine e_L (L' := [some (aR 132), some (aI v1), some (aI v2), some (aI (v3 + 1))]) (st' := []) (show decode (mC 4) 142 = .ok (.iinc 3 1, 3) by decide +kernel) rfl rfl ?_
        refine e_go (t := 88) (show decode (mC 4) 145 = .ok (.goto (-57), 3) by decide +kernel) (by decide) ?_
        exact (k10 p1 p2 p3)
      · refine e_L (L' := [some (aR 132), some (aI v1), some (aI v2), some (aI v3)]) (st' := [aR 132]) (show decode (mC 4) 116 = .ok (.aload_n 0, 1) by decide +kernel) rfl (by show (if 132 = 0 then none else some (_, _)) = _; rw [if_neg (by decide)]) ?_
        refine e_getR (w := 9) (show decode (mC 4) 117 = .ok (.getfield 21, 3) by decide +kernel) (show pl 0 21 = some (0, 0, 0, 0) by decide +kernel) (by decide) (sh_ok hG (by decide +kernel)) (sh_rf hG (by decide +kernel)) ?_
        refine e_L (L' := [some (aR 132), some (aI v1), some (aI v2), some (aI v3)]) (st' := [aI v1, aR 9]) (show decode (mC 4) 120 = .ok (.iload_n 1, 1) by decide +kernel) rfl rfl ?_
        refine e_L (L' := [some (aR 132), some (aI v1), some (aI v2), some (aI v3)]) (st' := [aI v3, aI v1, aR 9]) (show decode (mC 4) 121 = .ok (.iload_n 3, 1) by decide +kernel) rfl rfl ?_
        exact e_V (as := [aR 9, aI v1, aI v3]) (rest := []) (show decode (mC 4) 122 = .ok (.invokevirtual 34, 3) by decide +kernel) (by decide +kernel) (show (decide ((3 : Nat) = mA 72) && decide (72 < q_law)) = true by decide +kernel) rfl (show (0 : Nat) ≤ 8 by decide) (show (3 : Nat) ≤ mL 72 by decide +kernel) rfl (sh_ok hG (by decide +kernel)) (m11 p1 p2 p3)
/-- SoulOffice$AppealSearch.choose(II)Z, from 125 -/
theorem b4_125 (hG : Shp G) {v1 v2 v3 u0 : Int}
    (s0 : -2147483648 ≤ u0 ∧ u0 < 2147483648)
    (k1 : (u0 = 0) → T (d + 1) 4 88 [some (aR 132), some (aI v1), some (aI v2), some (aI (v3 + 1))] [] (G, c) Q)
    (m2 : (¬ u0 = 0) → TM d 5 [aR 132, aI v1, aI v3, aI (v2 - 1)] (G, c) (fun r h' => T (d + 1) 4 137 [some (aR 132), some (aI v1), some (aI v2), some (aI v3)] (r.toList ++ []) h' Q)) :
    T (d + 1) 4 125 [some (aR 132), some (aI v1), some (aI v2), some (aI v3)] [aI u0] (G, c) Q := by
  refine e_eq1 (t := 142) (show decode (mC 4) 125 = .ok (.ifCond .eq 17, 3) by decide +kernel) (by decide) s0 (fun p1 => ?_) (fun p1 => ?_)
  · refine e_L (L' := [some (aR 132), some (aI v1), some (aI v2), some (aI (v3 + 1))]) (st' := []) (show decode (mC 4) 142 = .ok (.iinc 3 1, 3) by decide +kernel) rfl rfl ?_
    refine e_go (t := 88) (show decode (mC 4) 145 = .ok (.goto (-57), 3) by decide +kernel) (by decide) ?_
    exact (k1 p1)
  · refine e_L (L' := [some (aR 132), some (aI v1), some (aI v2), some (aI v3)]) (st' := [aR 132]) (show decode (mC 4) 128 = .ok (.aload_n 0, 1) by decide +kernel) rfl (by show (if 132 = 0 then none else some (_, _)) = _; rw [if_neg (by decide)]) ?_
    refine e_L (L' := [some (aR 132), some (aI v1), some (aI v2), some (aI v3)]) (st' := [aI v1, aR 132]) (show decode (mC 4) 129 = .ok (.iload_n 1, 1) by decide +kernel) rfl rfl ?_
    refine e_L (L' := [some (aR 132), some (aI v1), some (aI v2), some (aI v3)]) (st' := [aI v3, aI v1, aR 132]) (show decode (mC 4) 130 = .ok (.iload_n 3, 1) by decide +kernel) rfl rfl ?_
    refine e_L (L' := [some (aR 132), some (aI v1), some (aI v2), some (aI v3)]) (st' := [aI v2, aI v3, aI v1, aR 132]) (show decode (mC 4) 131 = .ok (.iload_n 2, 1) by decide +kernel) rfl rfl ?_
    refine e_P (st' := [aI 1, aI v2, aI v3, aI v1, aR 132]) (show decode (mC 4) 132 = .ok (.iconst 1, 1) by decide +kernel) rfl rfl rfl ?_
    refine e_P (st' := [aI (v2 - 1), aI v3, aI v1, aR 132]) (show decode (mC 4) 133 = .ok (.isub, 1) by decide +kernel) rfl rfl rfl ?_
    exact e_V (as := [aR 132, aI v1, aI v3, aI (v2 - 1)]) (rest := []) (show decode (mC 4) 134 = .ok (.invokevirtual 79, 3) by decide +kernel) (by decide +kernel) (show (decide ((4 : Nat) = mA 5) && decide (5 < q_law)) = true by decide +kernel) rfl (show (0 : Nat) ≤ 8 by decide) (show (4 : Nat) ≤ mL 5 by decide +kernel) rfl (sh_ok hG (by decide +kernel)) (m2 p1)
/-- SoulOffice$AppealSearch.choose(II)Z, from 137 -/
theorem b4_137 (hG : Shp G) {v1 v2 v3 u0 : Int}
    (s0 : -2147483648 ≤ u0 ∧ u0 < 2147483648)
    (k1 : (u0 = 0) → T (d + 1) 4 88 [some (aR 132), some (aI v1), some (aI v2), some (aI (v3 + 1))] [] (G, c) Q)
    (z2 : (¬ u0 = 0) → Q (.inl (some (aI 1))) (G, c)) :
    T (d + 1) 4 137 [some (aR 132), some (aI v1), some (aI v2), some (aI v3)] [aI u0] (G, c) Q := by
  refine e_eq1 (t := 142) (show decode (mC 4) 137 = .ok (.ifCond .eq 5, 3) by decide +kernel) (by decide) s0 (fun p1 => ?_) (fun p1 => ?_)
  · refine e_L (L' := [some (aR 132), some (aI v1), some (aI v2), some (aI (v3 + 1))]) (st' := []) (show decode (mC 4) 142 = .ok (.iinc 3 1, 3) by decide +kernel) rfl rfl ?_
    refine e_go (t := 88) (show decode (mC 4) 145 = .ok (.goto (-57), 3) by decide +kernel) (by decide) ?_
    exact (k1 p1)
  · refine e_P (st' := [aI 1]) (show decode (mC 4) 140 = .ok (.iconst 1, 1) by decide +kernel) rfl rfl rfl ?_
    exact e_zret (show decode (mC 4) 141 = .ok (.ireturn, 1) by decide +kernel) rfl (by decide) (z2 p1)
/-- SoulOffice$AppealSearch.chooseAs(III)Z, from 0 -/
theorem b5_0 (hG : Shp G) {v1 v2 v3 x1 x2 : Int} (hQ : ∀ o o' h', q_eqo o o' → Q o h' → Q o' h')
    (s0 : -2147483648 ≤ v2 ∧ v2 < 2147483648)
    (z1 : (v2 = (-1)) → Q (.inl (some (aI 0))) (G, c))
    (s2 : (¬ v2 = (-1)) → 0 ≤ v2)
    (s3 : (¬ v2 = (-1)) → v2 < 6)
    (ex1 : c 133 v2 = x1)
    (s5 : (¬ v2 = (-1)) → -2147483648 ≤ x1 ∧ x1 < 2147483648)
    (ex2 : c 133 v2 = x2)
    (m7 : (¬ v2 = (-1)) → (1 ≤ x1) → TM d 268 [aR 132, aI v1, aI v2, aI v3] (G, (q_up c 133 v2 (x2 - 1))) (fun r h' => T (d + 1) 5 34 [some (aR 132), none, some (aI v2), none, none] (r.toList ++ []) h' Q))
    (z8 : (¬ v2 = (-1)) → (x1 < 1) → Q (.inl (some (aI 0))) (G, c)) :
    T (d + 1) 5 0 [some (aR 132), some (aI v1), some (aI v2), some (aI v3), none] [] (G, c) Q := by
  refine e_L (L' := [some (aR 132), some (aI v1), some (aI v2), some (aI v3), none]) (st' := [aI v2]) (show decode (mC 5) 0 = .ok (.iload_n 2, 1) by decide +kernel) rfl rfl ?_
  refine e_P (st' := [aI (-1), aI v2]) (show decode (mC 5) 1 = .ok (.iconst (-1), 1) by decide +kernel) rfl rfl rfl ?_
  refine e_eq2 (t := 15) (show decode (mC 5) 2 = .ok (.if_icmp .eq 13, 3) by decide +kernel) (by decide) s0 (by decide) (fun p1 => ?_) (fun p1 => ?_)
  · refine e_P (st' := [aI 0]) (show decode (mC 5) 15 = .ok (.iconst 0, 1) by decide +kernel) rfl rfl rfl ?_
    exact e_zret (show decode (mC 5) 16 = .ok (.ireturn, 1) by decide +kernel) rfl (by decide) (z1 p1)
  · refine e_L (L' := [some (aR 132), some (aI v1), some (aI v2), some (aI v3), none]) (st' := [aR 132]) (show decode (mC 5) 5 = .ok (.aload_n 0, 1) by decide +kernel) rfl (by show (if 132 = 0 then none else some (_, _)) = _; rw [if_neg (by decide)]) ?_
    refine e_getR (w := 133) (show decode (mC 5) 6 = .ok (.getfield 9, 3) by decide +kernel) (show pl 0 9 = some (0, 0, 2, 0) by decide +kernel) (by decide) (sh_ok hG (by decide +kernel)) (sh_rf hG (by decide +kernel)) ?_
    refine e_L (L' := [some (aR 132), some (aI v1), some (aI v2), some (aI v3), none]) (st' := [aI v2, aR 133]) (show decode (mC 5) 9 = .ok (.iload_n 2, 1) by decide +kernel) rfl rfl ?_
    refine e_ialdx (n := 6) (show decode (mC 5) 10 = .ok (.iaload, 1) by decide +kernel) (sh_ok hG (by decide +kernel)) (sh_ln hG (by decide +kernel)) (by decide) (s2 p1) (s3 p1) ex1 ?_
    refine e_P (st' := [aI 1, aI x1]) (show decode (mC 5) 11 = .ok (.iconst 1, 1) by decide +kernel) rfl rfl rfl ?_
    refine e_ge2 (t := 17) (show decode (mC 5) 12 = .ok (.if_icmp .ge 5, 3) by decide +kernel) (by decide) (s5 p1) (by decide) (fun p2 => ?_) (fun p2 => ?_)
    · refine e_L (L' := [some (aR 132), some (aI v1), some (aI v2), some (aI v3), none]) (st' := [aR 132]) (show decode (mC 5) 17 = .ok (.aload_n 0, 1) by decide +kernel) rfl (by show (if 132 = 0 then none else some (_, _)) = _; rw [if_neg (by decide)]) ?_
      refine e_getR (w := 133) (show decode (mC 5) 18 = .ok (.getfield 9, 3) by decide +kernel) (show pl 0 9 = some (0, 0, 2, 0) by decide +kernel) (by decide) (sh_ok hG (by decide +kernel)) (sh_rf hG (by decide +kernel)) ?_
      refine e_L (L' := [some (aR 132), some (aI v1), some (aI v2), some (aI v3), none]) (st' := [aI v2, aR 133]) (show decode (mC 5) 21 = .ok (.iload_n 2, 1) by decide +kernel) rfl rfl ?_
      refine e_P (st' := [aI v2, aR 133, aI v2, aR 133]) (show decode (mC 5) 22 = .ok (.dup2, 1) by decide +kernel) rfl rfl rfl ?_
      refine e_ialdx (n := 6) (show decode (mC 5) 23 = .ok (.iaload, 1) by decide +kernel) (sh_ok hG (by decide +kernel)) (sh_ln hG (by decide +kernel)) (by decide) (s2 p1) (s3 p1) ex2 ?_
      refine e_P (st' := [aI 1, aI x2, aI v2, aR 133]) (show decode (mC 5) 24 = .ok (.iconst 1, 1) by decide +kernel) rfl rfl rfl ?_
      refine e_P (st' := [aI (x2 - 1), aI v2, aR 133]) (show decode (mC 5) 25 = .ok (.isub, 1) by decide +kernel) rfl rfl rfl ?_
      refine e_iast (n := 6) (show decode (mC 5) 26 = .ok (.iastore, 1) by decide +kernel) (sh_ok hG (by decide +kernel)) (sh_ln hG (by decide +kernel)) (by decide) (s2 p1) (s3 p1) ?_
      refine e_L (L' := [some (aR 132), some (aI v1), some (aI v2), some (aI v3), none]) (st' := [aR 132]) (show decode (mC 5) 27 = .ok (.aload_n 0, 1) by decide +kernel) rfl (by show (if 132 = 0 then none else some (_, _)) = _; rw [if_neg (by decide)]) ?_
      refine e_L (L' := [some (aR 132), some (aI v1), some (aI v2), some (aI v3), none]) (st' := [aI v1, aR 132]) (show decode (mC 5) 28 = .ok (.iload_n 1, 1) by decide +kernel) rfl rfl ?_
      refine e_L (L' := [some (aR 132), some (aI v1), some (aI v2), some (aI v3), none]) (st' := [aI v2, aI v1, aR 132]) (show decode (mC 5) 29 = .ok (.iload_n 2, 1) by decide +kernel) rfl rfl ?_
      refine e_L (L' := [some (aR 132), some (aI v1), some (aI v2), some (aI v3), none]) (st' := [aI v3, aI v2, aI v1, aR 132]) (show decode (mC 5) 30 = .ok (.iload_n 3, 1) by decide +kernel) rfl rfl ?_
      exact e_V (as := [aR 132, aI v1, aI v2, aI v3]) (rest := []) (show decode (mC 5) 31 = .ok (.invokevirtual 75, 3) by decide +kernel) (by decide +kernel) (show (decide ((4 : Nat) = mA 268) && decide (268 < q_law)) = true by decide +kernel) rfl (show (0 : Nat) ≤ 8 by decide) (show (4 : Nat) ≤ mL 268 by decide +kernel) rfl (sh_ok hG (by decide +kernel)) (tm_le hQ (leS (leN (leS (leN (leS leE))))) (m7 p1 p2))
    · refine e_P (st' := [aI 0]) (show decode (mC 5) 15 = .ok (.iconst 0, 1) by decide +kernel) rfl rfl rfl ?_
      exact e_zret (show decode (mC 5) 16 = .ok (.ireturn, 1) by decide +kernel) rfl (by decide) (z8 p1 p2)
/-- SoulOffice$AppealSearch.chooseAs(III)Z, from 34 -/
theorem b5_34 (hG : Shp G) {v2 u0 x1 : Int}
    (s0 : 0 ≤ v2)
    (s1 : v2 < 6)
    (ex1 : c 133 v2 = x1)
    (s3 : u0 = 0 ∨ u0 = 1)
    (z4 : Q (.inl (some (aI u0))) (G, (q_up c 133 v2 (x1 + 1)))) :
    T (d + 1) 5 34 [some (aR 132), none, some (aI v2), none, none] [aI u0] (G, c) Q := by
  refine e_L (L' := [some (aR 132), none, some (aI v2), none, some (aI u0)]) (st' := []) (show decode (mC 5) 34 = .ok (.istore 4, 2) by decide +kernel) rfl rfl ?_
  refine e_L (L' := [some (aR 132), none, some (aI v2), none, some (aI u0)]) (st' := [aR 132]) (show decode (mC 5) 36 = .ok (.aload_n 0, 1) by decide +kernel) rfl (by show (if 132 = 0 then none else some (_, _)) = _; rw [if_neg (by decide)]) ?_
  refine e_getR (w := 133) (show decode (mC 5) 37 = .ok (.getfield 9, 3) by decide +kernel) (show pl 0 9 = some (0, 0, 2, 0) by decide +kernel) (by decide) (sh_ok hG (by decide +kernel)) (sh_rf hG (by decide +kernel)) ?_
  refine e_L (L' := [some (aR 132), none, some (aI v2), none, some (aI u0)]) (st' := [aI v2, aR 133]) (show decode (mC 5) 40 = .ok (.iload_n 2, 1) by decide +kernel) rfl rfl ?_
  refine e_P (st' := [aI v2, aR 133, aI v2, aR 133]) (show decode (mC 5) 41 = .ok (.dup2, 1) by decide +kernel) rfl rfl rfl ?_
  refine e_ialdx (n := 6) (show decode (mC 5) 42 = .ok (.iaload, 1) by decide +kernel) (sh_ok hG (by decide +kernel)) (sh_ln hG (by decide +kernel)) (by decide) s0 s1 ex1 ?_
  refine e_P (st' := [aI 1, aI x1, aI v2, aR 133]) (show decode (mC 5) 43 = .ok (.iconst 1, 1) by decide +kernel) rfl rfl rfl ?_
  refine e_P (st' := [aI (x1 + 1), aI v2, aR 133]) (show decode (mC 5) 44 = .ok (.iadd, 1) by decide +kernel) rfl rfl rfl ?_
  refine e_iast (n := 6) (show decode (mC 5) 45 = .ok (.iastore, 1) by decide +kernel) (sh_ok hG (by decide +kernel)) (sh_ln hG (by decide +kernel)) (by decide) s0 s1 ?_
  refine e_L (L' := [some (aR 132), none, some (aI v2), none, some (aI u0)]) (st' := [aI u0]) (show decode (mC 5) 46 = .ok (.iload 4, 2) by decide +kernel) rfl rfl ?_
  exact e_zret (show decode (mC 5) 48 = .ok (.ireturn, 1) by decide +kernel) rfl s3 z4
/-- SoulOffice$AppealSearch.changeKinds()V, from 0 -/
theorem b6_0 (hG : Shp G)
    (k0 : T (d + 1) 6 2 [some (aR 132), some (aI 0)] [] (G, c) Q) :
    T (d + 1) 6 0 [some (aR 132), none] [] (G, c) Q := by
  refine e_P (st' := [aI 0]) (show decode (mC 6) 0 = .ok (.iconst 0, 1) by decide +kernel) rfl rfl rfl ?_
  refine e_L (L' := [some (aR 132), some (aI 0)]) (st' := []) (show decode (mC 6) 1 = .ok (.istore_n 1, 1) by decide +kernel) rfl rfl ?_
  exact k0
/-- SoulOffice$AppealSearch.changeKinds()V, from 2 -/
theorem b6_2 (hG : Shp G) {v1 x1 x2 x3 x4 x5 x6 x7 : Int}
    (ex1 : c 9 1 = x1)
    (s1 : -2147483648 ≤ v1 ∧ v1 < 2147483648)
    (s2 : -2147483648 ≤ x1 ∧ x1 < 2147483648)
    (z3 : (x1 ≤ v1) → Q (.inl none) (G, c))
    (s4 : (v1 < x1) → 0 ≤ v1)
    (s5 : (v1 < x1) → v1 < 8)
    (ex2 : c 135 v1 = x2)
    (ex3 : c 28 v1 = x3)
    (s8 : (v1 < x1) → -2147483648 ≤ x2 ∧ x2 < 2147483648)
    (s9 : (v1 < x1) → -2147483648 ≤ x3 ∧ x3 < 2147483648)
    (k10 : (v1 < x1) → (x2 = x3) → T (d + 1) 6 79 [some (aR 132), some (aI v1)] [] (G, c) Q)
    (ex4 : c 28 v1 = x4)
    (s12 : (v1 < x1) → (¬ x2 = x3) → -2147483648 ≤ x4 ∧ x4 < 2147483648)
    (k13 : (v1 < x1) → (¬ x2 = x3) → (x4 = (-1)) → T (d + 1) 6 79 [some (aR 132), some (aI v1)] [] (G, c) Q)
    (ex5 : c 28 v1 = x5)
    (s15 : (v1 < x1) → (¬ x2 = x3) → (¬ x4 = (-1)) → 0 ≤ x5)
    (s16 : (v1 < x1) → (¬ x2 = x3) → (¬ x4 = (-1)) → x5 < 6)
    (ex6 : c 32 x5 = x6)
    (ex7 : (q_up c 32 x5 (x6 + 1)) 135 v1 = x7)
    (m19 : (v1 < x1) → (¬ x2 = x3) → (¬ x4 = (-1)) → TM d 31 [aR 27, aI v1, aI x7] (G, (q_up c 32 x5 (x6 + 1))) (fun r h' => T (d + 1) 6 79 [some (aR 132), some (aI v1)] (r.toList ++ []) h' Q)) :
    T (d + 1) 6 2 [some (aR 132), some (aI v1)] [] (G, c) Q := by
  refine e_L (L' := [some (aR 132), some (aI v1)]) (st' := [aI v1]) (show decode (mC 6) 2 = .ok (.iload_n 1, 1) by decide +kernel) rfl rfl ?_
  refine e_L (L' := [some (aR 132), some (aI v1)]) (st' := [aR 132, aI v1]) (show decode (mC 6) 3 = .ok (.aload_n 0, 1) by decide +kernel) rfl (by show (if 132 = 0 then none else some (_, _)) = _; rw [if_neg (by decide)]) ?_
  refine e_getR (w := 9) (show decode (mC 6) 4 = .ok (.getfield 21, 3) by decide +kernel) (show pl 0 21 = some (0, 0, 0, 0) by decide +kernel) (by decide) (sh_ok hG (by decide +kernel)) (sh_rf hG (by decide +kernel)) ?_
  refine e_getIx (show decode (mC 6) 7 = .ok (.getfield 54, 3) by decide +kernel) (show pl 0 54 = some (0, 8, 1, 0) by decide +kernel) (by decide) (sh_ok hG (by decide +kernel)) ex1 ?_
  refine e_ge2 (t := 85) (show decode (mC 6) 10 = .ok (.if_icmp .ge 75, 3) by decide +kernel) (by decide) s1 s2 (fun p1 => ?_) (fun p1 => ?_)
  · exact e_vret (show decode (mC 6) 85 = .ok (.return_, 1) by decide +kernel) rfl (z3 p1)
  · refine e_L (L' := [some (aR 132), some (aI v1)]) (st' := [aR 132]) (show decode (mC 6) 13 = .ok (.aload_n 0, 1) by decide +kernel) rfl (by show (if 132 = 0 then none else some (_, _)) = _; rw [if_neg (by decide)]) ?_
    refine e_getR (w := 135) (show decode (mC 6) 14 = .ok (.getfield 18, 3) by decide +kernel) (show pl 0 18 = some (0, 0, 4, 0) by decide +kernel) (by decide) (sh_ok hG (by decide +kernel)) (sh_rf hG (by decide +kernel)) ?_
    refine e_L (L' := [some (aR 132), some (aI v1)]) (st' := [aI v1, aR 135]) (show decode (mC 6) 17 = .ok (.iload_n 1, 1) by decide +kernel) rfl rfl ?_
    refine e_ialdx (n := 8) (show decode (mC 6) 18 = .ok (.iaload, 1) by decide +kernel) (sh_ok hG (by decide +kernel)) (sh_ln hG (by decide +kernel)) (by decide) (s4 p1) (s5 p1) ex2 ?_
    refine e_L (L' := [some (aR 132), some (aI v1)]) (st' := [aR 132, aI x2]) (show decode (mC 6) 19 = .ok (.aload_n 0, 1) by decide +kernel) rfl (by show (if 132 = 0 then none else some (_, _)) = _; rw [if_neg (by decide)]) ?_
    refine e_getR (w := 27) (show decode (mC 6) 20 = .ok (.getfield 25, 3) by decide +kernel) (show pl 0 25 = some (0, 0, 1, 0) by decide +kernel) (by decide) (sh_ok hG (by decide +kernel)) (sh_rf hG (by decide +kernel)) ?_
    refine e_getR (w := 28) (show decode (mC 6) 23 = .ok (.getfield 40, 3) by decide +kernel) (show pl 0 40 = some (0, 4, 4, 0) by decide +kernel) (by decide) (sh_ok hG (by decide +kernel)) (sh_rf hG (by decide +kernel)) ?_
    refine e_L (L' := [some (aR 132), some (aI v1)]) (st' := [aI v1, aR 28, aI x2]) (show decode (mC 6) 26 = .ok (.iload_n 1, 1) by decide +kernel) rfl rfl ?_
    refine e_ialdx (n := 8) (show decode (mC 6) 27 = .ok (.iaload, 1) by decide +kernel) (sh_ok hG (by decide +kernel)) (sh_ln hG (by decide +kernel)) (by decide) (s4 p1) (s5 p1) ex3 ?_
    refine e_eq2 (t := 79) (show decode (mC 6) 28 = .ok (.if_icmp .eq 51, 3) by decide +kernel) (by decide) (s8 p1) (s9 p1) (fun p2 => ?_) (fun p2 => ?_)
    · exact (k10 p1 p2)
    · refine e_L (L' := [some (aR 132), some (aI v1)]) (st' := [aR 132]) (show decode (mC 6) 31 = .ok (.aload_n 0, 1) by decide +kernel) rfl (by show (if 132 = 0 then none else some (_, _)) = _; rw [if_neg (by decide)]) ?_
      refine e_getR (w := 27) (show decode (mC 6) 32 = .ok (.getfield 25, 3) by decide +kernel) (show pl 0 25 = some (0, 0, 1, 0) by decide +kernel) (by decide) (sh_ok hG (by decide +kernel)) (sh_rf hG (by decide +kernel)) ?_
      refine e_getR (w := 28) (show decode (mC 6) 35 = .ok (.getfield 40, 3) by decide +kernel) (show pl 0 40 = some (0, 4, 4, 0) by decide +kernel) (by decide) (sh_ok hG (by decide +kernel)) (sh_rf hG (by decide +kernel)) ?_
      refine e_L (L' := [some (aR 132), some (aI v1)]) (st' := [aI v1, aR 28]) (show decode (mC 6) 38 = .ok (.iload_n 1, 1) by decide +kernel) rfl rfl ?_
      refine e_ialdx (n := 8) (show decode (mC 6) 39 = .ok (.iaload, 1) by decide +kernel) (sh_ok hG (by decide +kernel)) (sh_ln hG (by decide +kernel)) (by decide) (s4 p1) (s5 p1) ex4 ?_
      refine e_P (st' := [aI (-1), aI x4]) (show decode (mC 6) 40 = .ok (.iconst (-1), 1) by decide +kernel) rfl rfl rfl ?_
      refine e_eq2 (t := 79) (show decode (mC 6) 41 = .ok (.if_icmp .eq 38, 3) by decide +kernel) (by decide) (s12 p1 p2) (by decide) (fun p3 => ?_) (fun p3 => ?_)
      · exact (k13 p1 p2 p3)
      · refine e_L (L' := [some (aR 132), some (aI v1)]) (st' := [aR 132]) (show decode (mC 6) 44 = .ok (.aload_n 0, 1) by decide +kernel) rfl (by show (if 132 = 0 then none else some (_, _)) = _; rw [if_neg (by decide)]) ?_
        refine e_getR (w := 27) (show decode (mC 6) 45 = .ok (.getfield 25, 3) by decide +kernel) (show pl 0 25 = some (0, 0, 1, 0) by decide +kernel) (by decide) (sh_ok hG (by decide +kernel)) (sh_rf hG (by decide +kernel)) ?_
        refine e_getR (w := 32) (show decode (mC 6) 48 = .ok (.getfield 47, 3) by decide +kernel) (show pl 0 47 = some (0, 4, 8, 0) by decide +kernel) (by decide) (sh_ok hG (by decide +kernel)) (sh_rf hG (by decide +kernel)) ?_
        refine e_L (L' := [some (aR 132), some (aI v1)]) (st' := [aR 132, aR 32]) (show decode (mC 6) 51 = .ok (.aload_n 0, 1) by decide +kernel) rfl (by show (if 132 = 0 then none else some (_, _)) = _; rw [if_neg (by decide)]) ?_
        refine e_getR (w := 27) (show decode (mC 6) 52 = .ok (.getfield 25, 3) by decide +kernel) (show pl 0 25 = some (0, 0, 1, 0) by decide +kernel) (by decide) (sh_ok hG (by decide +kernel)) (sh_rf hG (by decide +kernel)) ?_
        refine e_getR (w := 28) (show decode (mC 6) 55 = .ok (.getfield 40, 3) by decide +kernel) (show pl 0 40 = some (0, 4, 4, 0) by decide +kernel) (by decide) (sh_ok hG (by decide +kernel)) (sh_rf hG (by decide +kernel)) ?_
        refine e_L (L' := [some (aR 132), some (aI v1)]) (st' := [aI v1, aR 28, aR 32]) (show decode (mC 6) 58 = .ok (.iload_n 1, 1) by decide +kernel) rfl rfl ?_
        refine e_ialdx (n := 8) (show decode (mC 6) 59 = .ok (.iaload, 1) by decide +kernel) (sh_ok hG (by decide +kernel)) (sh_ln hG (by decide +kernel)) (by decide) (s4 p1) (s5 p1) ex5 ?_
        refine e_P (st' := [aI x5, aR 32, aI x5, aR 32]) (show decode (mC 6) 60 = .ok (.dup2, 1) by decide +kernel) rfl rfl rfl ?_
        refine e_ialdx (n := 6) (show decode (mC 6) 61 = .ok (.iaload, 1) by decide +kernel) (sh_ok hG (by decide +kernel)) (sh_ln hG (by decide +kernel)) (by decide) (s15 p1 p2 p3) (s16 p1 p2 p3) ex6 ?_
        refine e_P (st' := [aI 1, aI x6, aI x5, aR 32]) (show decode (mC 6) 62 = .ok (.iconst 1, 1) by decide +kernel) rfl rfl rfl ?_
        refine e_P (st' := [aI (x6 + 1), aI x5, aR 32]) (show decode (mC 6) 63 = .ok (.iadd, 1) by decide +kernel) rfl rfl rfl ?_
        refine e_iast (n := 6) (show decode (mC 6) 64 = .ok (.iastore, 1) by decide +kernel) (sh_ok hG (by decide +kernel)) (sh_ln hG (by decide +kernel)) (by decide) (s15 p1 p2 p3) (s16 p1 p2 p3) ?_
        refine e_L (L' := [some (aR 132), some (aI v1)]) (st' := [aR 132]) (show decode (mC 6) 65 = .ok (.aload_n 0, 1) by decide +kernel) rfl (by show (if 132 = 0 then none else some (_, _)) = _; rw [if_neg (by decide)]) ?_
        refine e_getR (w := 27) (show decode (mC 6) 66 = .ok (.getfield 25, 3) by decide +kernel) (show pl 0 25 = some (0, 0, 1, 0) by decide +kernel) (by decide) (sh_ok hG (by decide +kernel)) (sh_rf hG (by decide +kernel)) ?_
        refine e_L (L' := [some (aR 132), some (aI v1)]) (st' := [aI v1, aR 27]) (show decode (mC 6) 69 = .ok (.iload_n 1, 1) by decide +kernel) rfl rfl ?_
        refine e_L (L' := [some (aR 132), some (aI v1)]) (st' := [aR 132, aI v1, aR 27]) (show decode (mC 6) 70 = .ok (.aload_n 0, 1) by decide +kernel) rfl (by show (if 132 = 0 then none else some (_, _)) = _; rw [if_neg (by decide)]) ?_
        refine e_getR (w := 135) (show decode (mC 6) 71 = .ok (.getfield 18, 3) by decide +kernel) (show pl 0 18 = some (0, 0, 4, 0) by decide +kernel) (by decide) (sh_ok hG (by decide +kernel)) (sh_rf hG (by decide +kernel)) ?_
        refine e_L (L' := [some (aR 132), some (aI v1)]) (st' := [aI v1, aR 135, aI v1, aR 27]) (show decode (mC 6) 74 = .ok (.iload_n 1, 1) by decide +kernel) rfl rfl ?_
        refine e_ialdx (n := 8) (show decode (mC 6) 75 = .ok (.iaload, 1) by decide +kernel) (sh_ok hG (by decide +kernel)) (sh_ln hG (by decide +kernel)) (by decide) (s4 p1) (s5 p1) ex7 ?_
        exact e_V (as := [aR 27, aI v1, aI x7]) (rest := []) (show decode (mC 6) 76 = .ok (.invokevirtual 82, 3) by decide +kernel) (by decide +kernel) (show (decide ((3 : Nat) = mA 31) && decide (31 < q_law)) = true by decide +kernel) rfl (show (0 : Nat) ≤ 8 by decide) (show (3 : Nat) ≤ mL 31 by decide +kernel) rfl (sh_ok hG (by decide +kernel)) (m19 p1 p2 p3)
/-- SoulOffice$AppealSearch.changeKinds()V, from 79 -/
theorem b6_79 (hG : Shp G) {v1 : Int}
    (k0 : T (d + 1) 6 2 [some (aR 132), some (aI (v1 + 1))] [] (G, c) Q) :
    T (d + 1) 6 79 [some (aR 132), some (aI v1)] [] (G, c) Q := by
  refine e_L (L' := [some (aR 132), some (aI (v1 + 1))]) (st' := []) (show decode (mC 6) 79 = .ok (.iinc 1 1, 3) by decide +kernel) rfl rfl ?_
  refine e_go (t := 2) (show decode (mC 6) 82 = .ok (.goto (-80), 3) by decide +kernel) (by decide) ?_
  exact k0
/-- SoulOffice$AppealSearch.goOnWith(III)Z, from 0 -/
theorem b268_0 (hG : Shp G) {v1 v2 v3 : Int} (hQ : ∀ o o' h', q_eqo o o' → Q o h' → Q o' h')
    (s0 : 0 ≤ v1)
    (s1 : v1 < 8)
    (m2 : TM d 4 [aR 132, aI (v1 + 1), aI v3] (G, (q_up c 135 v1 v2)) (fun r h' => T (d + 1) 268 15 [none, none, none, none] (r.toList ++ []) h' Q)) :
    T (d + 1) 268 0 [some (aR 132), some (aI v1), some (aI v2), some (aI v3)] [] (G, c) Q := by
  refine e_L (L' := [some (aR 132), some (aI v1), some (aI v2), some (aI v3)]) (st' := [aR 132]) (show decode (mC 268) 0 = .ok (.aload_n 0, 1) by decide +kernel) rfl (by show (if 132 = 0 then none else some (_, _)) = _; rw [if_neg (by decide)]) ?_
  refine e_getR (w := 135) (show decode (mC 268) 1 = .ok (.getfield 18, 3) by decide +kernel) (show pl 0 18 = some (0, 0, 4, 0) by decide +kernel) (by decide) (sh_ok hG (by decide +kernel)) (sh_rf hG (by decide +kernel)) ?_
  refine e_L (L' := [some (aR 132), some (aI v1), some (aI v2), some (aI v3)]) (st' := [aI v1, aR 135]) (show decode (mC 268) 4 = .ok (.iload_n 1, 1) by decide +kernel) rfl rfl ?_
  refine e_L (L' := [some (aR 132), some (aI v1), some (aI v2), some (aI v3)]) (st' := [aI v2, aI v1, aR 135]) (show decode (mC 268) 5 = .ok (.iload_n 2, 1) by decide +kernel) rfl rfl ?_
  refine e_iast (n := 8) (show decode (mC 268) 6 = .ok (.iastore, 1) by decide +kernel) (sh_ok hG (by decide +kernel)) (sh_ln hG (by decide +kernel)) (by decide) s0 s1 ?_
  refine e_L (L' := [some (aR 132), some (aI v1), some (aI v2), some (aI v3)]) (st' := [aR 132]) (show decode (mC 268) 7 = .ok (.aload_n 0, 1) by decide +kernel) rfl (by show (if 132 = 0 then none else some (_, _)) = _; rw [if_neg (by decide)]) ?_
  refine e_L (L' := [some (aR 132), some (aI v1), some (aI v2), some (aI v3)]) (st' := [aI v1, aR 132]) (show decode (mC 268) 8 = .ok (.iload_n 1, 1) by decide +kernel) rfl rfl ?_
  refine e_P (st' := [aI 1, aI v1, aR 132]) (show decode (mC 268) 9 = .ok (.iconst 1, 1) by decide +kernel) rfl rfl rfl ?_
  refine e_P (st' := [aI (v1 + 1), aR 132]) (show decode (mC 268) 10 = .ok (.iadd, 1) by decide +kernel) rfl rfl rfl ?_
  refine e_L (L' := [some (aR 132), some (aI v1), some (aI v2), some (aI v3)]) (st' := [aI v3, aI (v1 + 1), aR 132]) (show decode (mC 268) 11 = .ok (.iload_n 3, 1) by decide +kernel) rfl rfl ?_
  exact e_V (as := [aR 132, aI (v1 + 1), aI v3]) (rest := []) (show decode (mC 268) 12 = .ok (.invokevirtual 72, 3) by decide +kernel) (by decide +kernel) (show (decide ((3 : Nat) = mA 4) && decide (4 < q_law)) = true by decide +kernel) rfl (show (0 : Nat) ≤ 8 by decide) (show (3 : Nat) ≤ mL 4 by decide +kernel) rfl (sh_ok hG (by decide +kernel)) (tm_le hQ (leN (leN (leN (leN leE)))) m2)
/-- SoulOffice$AppealSearch.goOnWith(III)Z, from 15 -/
theorem b268_15 (hG : Shp G) {u0 : Int}
    (s0 : u0 = 0 ∨ u0 = 1)
    (z1 : Q (.inl (some (aI u0))) (G, c)) :
    T (d + 1) 268 15 [none, none, none, none] [aI u0] (G, c) Q := by
  exact e_zret (show decode (mC 268) 15 = .ok (.ireturn, 1) by decide +kernel) rfl s0 z1
end QB12
