section QB31
variable {d : Nat} {G : GG} {c : CC} {Q : OO → HH → Prop}
/-- SoulOfficeModel.draw(I)I, from 0 -/
theorem b242_0 (hG : Shp G) {v1 x1 x2 : Int}
    (ex1 : c 188 35 = x1)
    (ex2 : (q_up c 188 35 ((x1 * 1103515245) + 12345)) 188 35 = x2)
    (s2 : ¬ Int32.ofInt v1 = 0)
    (z3 : Q (.inl (some (aI (q_rem (q_ush x2 8) v1)))) (G, (q_up c 188 35 ((x1 * 1103515245) + 12345)))) :
    T d 242 0 [some (aR 188), some (aI v1)] [] (G, c) Q := by
  refine e_L (L' := [some (aR 188), some (aI v1)]) (st' := [aR 188]) (show decode (mC 242) 0 = .ok (.aload_n 0, 1) by decide +kernel) rfl (by show (if 188 = 0 then none else some (_, _)) = _; rw [if_neg (by decide)]) ?_
  refine e_L (L' := [some (aR 188), some (aI v1)]) (st' := [aR 188, aR 188]) (show decode (mC 242) 1 = .ok (.aload_n 0, 1) by decide +kernel) rfl (by show (if 188 = 0 then none else some (_, _)) = _; rw [if_neg (by decide)]) ?_
  refine e_getIx (show decode (mC 242) 2 = .ok (.getfield 353, 3) by decide +kernel) (show pl 12 353 = some (0, 12, 35, 0) by decide +kernel) (by decide) (sh_ok hG (by decide +kernel)) ex1 ?_
  refine e_ldcw (show decode (mC 242) 5 = .ok (.ldc_w 356, 3) by decide +kernel) (show pl 12 356 = some (8, 0, 0, 1103515245) by decide +kernel) ?_
  refine e_P (st' := [aI (x1 * 1103515245), aR 188]) (show decode (mC 242) 8 = .ok (.imul, 1) by decide +kernel) rfl rfl rfl ?_
  refine e_P (st' := [aI 12345, aI (x1 * 1103515245), aR 188]) (show decode (mC 242) 9 = .ok (.sipush 12345, 3) by decide +kernel) rfl rfl rfl ?_
  refine e_P (st' := [aI ((x1 * 1103515245) + 12345), aR 188]) (show decode (mC 242) 12 = .ok (.iadd, 1) by decide +kernel) rfl rfl rfl ?_
  refine e_putI (show decode (mC 242) 13 = .ok (.putfield 353, 3) by decide +kernel) (show pl 12 353 = some (0, 12, 35, 0) by decide +kernel) (by decide) (sh_ok hG (by decide +kernel)) ?_
  refine e_L (L' := [some (aR 188), some (aI v1)]) (st' := [aR 188]) (show decode (mC 242) 16 = .ok (.aload_n 0, 1) by decide +kernel) rfl (by show (if 188 = 0 then none else some (_, _)) = _; rw [if_neg (by decide)]) ?_
  refine e_getIx (show decode (mC 242) 17 = .ok (.getfield 353, 3) by decide +kernel) (show pl 12 353 = some (0, 12, 35, 0) by decide +kernel) (by decide) (sh_ok hG (by decide +kernel)) ex2 ?_
  refine e_P (st' := [aI 8, aI x2]) (show decode (mC 242) 20 = .ok (.bipush 8, 2) by decide +kernel) rfl rfl rfl ?_
  refine e_P (st' := [aI (q_ush x2 8)]) (show decode (mC 242) 22 = .ok (.iushr, 1) by decide +kernel) rfl rfl rfl ?_
  refine e_L (L' := [some (aR 188), some (aI v1)]) (st' := [aI v1, aI (q_ush x2 8)]) (show decode (mC 242) 23 = .ok (.iload_n 1, 1) by decide +kernel) rfl rfl ?_
  refine e_irem (show decode (mC 242) 24 = .ok (.irem, 1) by decide +kernel) s2 ?_
  exact e_iret (show decode (mC 242) 25 = .ok (.ireturn, 1) by decide +kernel) rfl z3
/-- SoulOfficeModel.years(II)I, from 0 -/
theorem b243_0 (hG : Shp G) {v1 v2 x1 : Int} (hQ : ∀ o o' h', q_eqo o o' → Q o h' → Q o' h')
    (ex1 : (q_up c 188 35 v2) 190 171 = x1)
    (k1 : T (d + 1) 243 17 [some (aR 188), some (aI v1), none, some (aI x1), some (aI 0), none, none] [] (G, (q_up c 188 35 v2)) Q) :
    T (d + 1) 243 0 [some (aR 188), some (aI v1), some (aI v2), none, none, none, none] [] (G, c) Q := by
  refine e_L (L' := [some (aR 188), some (aI v1), some (aI v2), none, none, none, none]) (st' := [aR 188]) (show decode (mC 243) 0 = .ok (.aload_n 0, 1) by decide +kernel) rfl (by show (if 188 = 0 then none else some (_, _)) = _; rw [if_neg (by decide)]) ?_
  refine e_L (L' := [some (aR 188), some (aI v1), some (aI v2), none, none, none, none]) (st' := [aI v2, aR 188]) (show decode (mC 243) 1 = .ok (.iload_n 2, 1) by decide +kernel) rfl rfl ?_
  refine e_putI (show decode (mC 243) 2 = .ok (.putfield 353, 3) by decide +kernel) (show pl 12 353 = some (0, 12, 35, 0) by decide +kernel) (by decide) (sh_ok hG (by decide +kernel)) ?_
  refine e_L (L' := [some (aR 188), some (aI v1), some (aI v2), none, none, none, none]) (st' := [aR 188]) (show decode (mC 243) 5 = .ok (.aload_n 0, 1) by decide +kernel) rfl (by show (if 188 = 0 then none else some (_, _)) = _; rw [if_neg (by decide)]) ?_
  refine e_getR (w := 190) (show decode (mC 243) 6 = .ok (.getfield 33, 3) by decide +kernel) (show pl 12 33 = some (0, 12, 6, 0) by decide +kernel) (by decide) (sh_ok hG (by decide +kernel)) (sh_rf hG (by decide +kernel)) ?_
  refine e_P (st' := [aI 171, aR 190]) (show decode (mC 243) 9 = .ok (.sipush 171, 3) by decide +kernel) rfl rfl rfl ?_
  refine e_ialdx (n := 514) (show decode (mC 243) 12 = .ok (.iaload, 1) by decide +kernel) (sh_ok hG (by decide +kernel)) (sh_ln hG (by decide +kernel)) (by decide) (by decide) (by decide) ex1 ?_
  refine e_L (L' := [some (aR 188), some (aI v1), some (aI v2), some (aI x1), none, none, none]) (st' := []) (show decode (mC 243) 13 = .ok (.istore_n 3, 1) by decide +kernel) rfl rfl ?_
  refine e_P (st' := [aI 0]) (show decode (mC 243) 14 = .ok (.iconst 0, 1) by decide +kernel) rfl rfl rfl ?_
  refine e_L (L' := [some (aR 188), some (aI v1), some (aI v2), some (aI x1), some (aI 0), none, none]) (st' := []) (show decode (mC 243) 15 = .ok (.istore 4, 2) by decide +kernel) rfl rfl ?_
  exact T_le hQ (leS (leS (leN (leS (leS (leS (leS leE))))))) k1
/-- SoulOfficeModel.years(II)I, from 17 -/
theorem b243_17 (hG : Shp G) {v1 v3 v4 x1 : Int}
    (s0 : -2147483648 ≤ v4 ∧ v4 < 2147483648)
    (s1 : -2147483648 ≤ v1 ∧ v1 < 2147483648)
    (ex1 : c 190 171 = x1)
    (z3 : (v1 ≤ v4) → Q (.inl (some (aI (x1 - v3)))) (G, c))
    (k4 : (v4 < v1) → T (d + 1) 243 26 [some (aR 188), some (aI v1), none, some (aI v3), some (aI v4), some (aI 0), none] [] (G, c) Q) :
    T (d + 1) 243 17 [some (aR 188), some (aI v1), none, some (aI v3), some (aI v4), none, none] [] (G, c) Q := by
  refine e_L (L' := [some (aR 188), some (aI v1), none, some (aI v3), some (aI v4), none, none]) (st' := [aI v4]) (show decode (mC 243) 17 = .ok (.iload 4, 2) by decide +kernel) rfl rfl ?_
  refine e_L (L' := [some (aR 188), some (aI v1), none, some (aI v3), some (aI v4), none, none]) (st' := [aI v1, aI v4]) (show decode (mC 243) 19 = .ok (.iload_n 1, 1) by decide +kernel) rfl rfl ?_
  refine e_ge2 (t := 101) (show decode (mC 243) 20 = .ok (.if_icmp .ge 81, 3) by decide +kernel) (by decide) s0 s1 (fun p1 => ?_) (fun p1 => ?_)
  · refine e_L (L' := [some (aR 188), some (aI v1), none, some (aI v3), some (aI v4), none, none]) (st' := [aR 188]) (show decode (mC 243) 101 = .ok (.aload_n 0, 1) by decide +kernel) rfl (by show (if 188 = 0 then none else some (_, _)) = _; rw [if_neg (by decide)]) ?_
    refine e_getR (w := 190) (show decode (mC 243) 102 = .ok (.getfield 33, 3) by decide +kernel) (show pl 12 33 = some (0, 12, 6, 0) by decide +kernel) (by decide) (sh_ok hG (by decide +kernel)) (sh_rf hG (by decide +kernel)) ?_
    refine e_P (st' := [aI 171, aR 190]) (show decode (mC 243) 105 = .ok (.sipush 171, 3) by decide +kernel) rfl rfl rfl ?_
    refine e_ialdx (n := 514) (show decode (mC 243) 108 = .ok (.iaload, 1) by decide +kernel) (sh_ok hG (by decide +kernel)) (sh_ln hG (by decide +kernel)) (by decide) (by decide) (by decide) ex1 ?_
    refine e_L (L' := [some (aR 188), some (aI v1), none, some (aI v3), some (aI v4), none, none]) (st' := [aI v3, aI x1]) (show decode (mC 243) 109 = .ok (.iload_n 3, 1) by decide +kernel) rfl rfl ?_
    refine e_P (st' := [aI (x1 - v3)]) (show decode (mC 243) 110 = .ok (.isub, 1) by decide +kernel) rfl rfl rfl ?_
    exact e_iret (show decode (mC 243) 111 = .ok (.ireturn, 1) by decide +kernel) rfl (z3 p1)
  · refine e_P (st' := [aI 0]) (show decode (mC 243) 23 = .ok (.iconst 0, 1) by decide +kernel) rfl rfl rfl ?_
    refine e_L (L' := [some (aR 188), some (aI v1), none, some (aI v3), some (aI v4), some (aI 0), none]) (st' := []) (show decode (mC 243) 24 = .ok (.istore 5, 2) by decide +kernel) rfl rfl ?_
    exact (k4 p1)
/-- SoulOfficeModel.years(II)I, from 26 -/
theorem b243_26 (hG : Shp G) {v1 v3 v4 v5 x1 x2 x3 : Int} (hQ : ∀ o o' h', q_eqo o o' → Q o h' → Q o' h')
    (ex1 : c 190 1 = x1)
    (s1 : -2147483648 ≤ v5 ∧ v5 < 2147483648)
    (s2 : -2147483648 ≤ x1 ∧ x1 < 2147483648)
    (m3 : (x1 ≤ v5) → TM d 202 [aR 188] (G, c) (fun r h' => T (d + 1) 243 95 [some (aR 188), some (aI v1), none, some (aI v3), some (aI v4), none, none] (r.toList ++ []) h' Q))
    (s4 : (v5 < x1) → 0 ≤ (173 + v5))
    (s5 : (v5 < x1) → (173 + v5) < 514)
    (ex2 : c 190 (173 + v5) = x2)
    (s7 : (v5 < x1) → -2147483648 ≤ x2 ∧ x2 < 2147483648)
    (ex3 : c 190 0 = x3)
    (m9 : (v5 < x1) → (x2 ≤ 0) → TM d 242 [aR 188, aI x3] (G, c) (fun r h' => T (d + 1) 243 64 [some (aR 188), some (aI v1), none, some (aI v3), some (aI v4), some (aI v5), none] (r.toList ++ []) h' Q))
    (k10 : (v5 < x1) → (0 < x2) → T (d + 1) 243 85 [some (aR 188), some (aI v1), none, some (aI v3), some (aI v4), some (aI v5), none] [] (G, c) Q) :
    T (d + 1) 243 26 [some (aR 188), some (aI v1), none, some (aI v3), some (aI v4), some (aI v5), none] [] (G, c) Q := by
  refine e_L (L' := [some (aR 188), some (aI v1), none, some (aI v3), some (aI v4), some (aI v5), none]) (st' := [aI v5]) (show decode (mC 243) 26 = .ok (.iload 5, 2) by decide +kernel) rfl rfl ?_
  refine e_L (L' := [some (aR 188), some (aI v1), none, some (aI v3), some (aI v4), some (aI v5), none]) (st' := [aR 188, aI v5]) (show decode (mC 243) 28 = .ok (.aload_n 0, 1) by decide +kernel) rfl (by show (if 188 = 0 then none else some (_, _)) = _; rw [if_neg (by decide)]) ?_
  refine e_getR (w := 190) (show decode (mC 243) 29 = .ok (.getfield 33, 3) by decide +kernel) (show pl 12 33 = some (0, 12, 6, 0) by decide +kernel) (by decide) (sh_ok hG (by decide +kernel)) (sh_rf hG (by decide +kernel)) ?_
  refine e_P (st' := [aI 1, aR 190, aI v5]) (show decode (mC 243) 32 = .ok (.iconst 1, 1) by decide +kernel) rfl rfl rfl ?_
  refine e_ialdx (n := 514) (show decode (mC 243) 33 = .ok (.iaload, 1) by decide +kernel) (sh_ok hG (by decide +kernel)) (sh_ln hG (by decide +kernel)) (by decide) (by decide) (by decide) ex1 ?_
  refine e_ge2 (t := 91) (show decode (mC 243) 34 = .ok (.if_icmp .ge 57, 3) by decide +kernel) (by decide) s1 s2 (fun p1 => ?_) (fun p1 => ?_)
  · refine e_L (L' := [some (aR 188), some (aI v1), none, some (aI v3), some (aI v4), some (aI v5), none]) (st' := [aR 188]) (show decode (mC 243) 91 = .ok (.aload_n 0, 1) by decide +kernel) rfl (by show (if 188 = 0 then none else some (_, _)) = _; rw [if_neg (by decide)]) ?_
    exact e_V (as := [aR 188]) (rest := []) (show decode (mC 243) 92 = .ok (.invokevirtual 287, 3) by decide +kernel) (by decide +kernel) (show (decide ((1 : Nat) = mA 202) && decide (202 < q_law)) = true by decide +kernel) rfl (show (0 : Nat) ≤ 8 by decide) (show (1 : Nat) ≤ mL 202 by decide +kernel) rfl (sh_ok hG (by decide +kernel)) (tm_le hQ (leS (leS (leS (leS (leS (leN (leS leE))))))) (m3 p1))
  · refine e_L (L' := [some (aR 188), some (aI v1), none, some (aI v3), some (aI v4), some (aI v5), none]) (st' := [aR 188]) (show decode (mC 243) 37 = .ok (.aload_n 0, 1) by decide +kernel) rfl (by show (if 188 = 0 then none else some (_, _)) = _; rw [if_neg (by decide)]) ?_
    refine e_getR (w := 190) (show decode (mC 243) 38 = .ok (.getfield 33, 3) by decide +kernel) (show pl 12 33 = some (0, 12, 6, 0) by decide +kernel) (by decide) (sh_ok hG (by decide +kernel)) (sh_rf hG (by decide +kernel)) ?_
    refine e_P (st' := [aI 173, aR 190]) (show decode (mC 243) 41 = .ok (.sipush 173, 3) by decide +kernel) rfl rfl rfl ?_
    refine e_L (L' := [some (aR 188), some (aI v1), none, some (aI v3), some (aI v4), some (aI v5), none]) (st' := [aI v5, aI 173, aR 190]) (show decode (mC 243) 44 = .ok (.iload 5, 2) by decide +kernel) rfl rfl ?_
    refine e_P (st' := [aI (173 + v5), aR 190]) (show decode (mC 243) 46 = .ok (.iadd, 1) by decide +kernel) rfl rfl rfl ?_
    refine e_ialdx (n := 514) (show decode (mC 243) 47 = .ok (.iaload, 1) by decide +kernel) (sh_ok hG (by decide +kernel)) (sh_ln hG (by decide +kernel)) (by decide) (s4 p1) (s5 p1) ex2 ?_
    refine e_le1 (t := 54) (show decode (mC 243) 48 = .ok (.ifCond .le 6, 3) by decide +kernel) (by decide) (s7 p1) (fun p2 => ?_) (fun p2 => ?_)
    · refine e_L (L' := [some (aR 188), some (aI v1), none, some (aI v3), some (aI v4), some (aI v5), none]) (st' := [aR 188]) (show decode (mC 243) 54 = .ok (.aload_n 0, 1) by decide +kernel) rfl (by show (if 188 = 0 then none else some (_, _)) = _; rw [if_neg (by decide)]) ?_
      refine e_L (L' := [some (aR 188), some (aI v1), none, some (aI v3), some (aI v4), some (aI v5), none]) (st' := [aR 188, aR 188]) (show decode (mC 243) 55 = .ok (.aload_n 0, 1) by decide +kernel) rfl (by show (if 188 = 0 then none else some (_, _)) = _; rw [if_neg (by decide)]) ?_
      refine e_getR (w := 190) (show decode (mC 243) 56 = .ok (.getfield 33, 3) by decide +kernel) (show pl 12 33 = some (0, 12, 6, 0) by decide +kernel) (by decide) (sh_ok hG (by decide +kernel)) (sh_rf hG (by decide +kernel)) ?_
      refine e_P (st' := [aI 0, aR 190, aR 188]) (show decode (mC 243) 59 = .ok (.iconst 0, 1) by decide +kernel) rfl rfl rfl ?_
      refine e_ialdx (n := 514) (show decode (mC 243) 60 = .ok (.iaload, 1) by decide +kernel) (sh_ok hG (by decide +kernel)) (sh_ln hG (by decide +kernel)) (by decide) (by decide) (by decide) ex3 ?_
      exact e_V (as := [aR 188, aI x3]) (rest := []) (show decode (mC 243) 61 = .ok (.invokevirtual 357, 3) by decide +kernel) (by decide +kernel) (show (decide ((2 : Nat) = mA 242) && decide (242 < q_law)) = true by decide +kernel) rfl (show (0 : Nat) ≤ 8 by decide) (show (2 : Nat) ≤ mL 242 by decide +kernel) rfl (sh_ok hG (by decide +kernel)) (m9 p1 p2)
    · refine e_go (t := 85) (show decode (mC 243) 51 = .ok (.goto 34, 3) by decide +kernel) (by decide) ?_
      exact (k10 p1 p2)
/-- SoulOfficeModel.years(II)I, from 64 -/
theorem b243_64 (hG : Shp G) {v1 v3 v4 v5 u0 : Int}
    (m0 : TM d 198 [aR 188, aI v5, aI u0] (G, c) (fun r h' => T (d + 1) 243 74 [some (aR 188), some (aI v1), none, some (aI v3), some (aI v4), some (aI v5), some (aI u0)] (r.toList ++ []) h' Q)) :
    T (d + 1) 243 64 [some (aR 188), some (aI v1), none, some (aI v3), some (aI v4), some (aI v5), none] [aI u0] (G, c) Q := by
  refine e_L (L' := [some (aR 188), some (aI v1), none, some (aI v3), some (aI v4), some (aI v5), some (aI u0)]) (st' := []) (show decode (mC 243) 64 = .ok (.istore 6, 2) by decide +kernel) rfl rfl ?_
  refine e_L (L' := [some (aR 188), some (aI v1), none, some (aI v3), some (aI v4), some (aI v5), some (aI u0)]) (st' := [aR 188]) (show decode (mC 243) 66 = .ok (.aload_n 0, 1) by decide +kernel) rfl (by show (if 188 = 0 then none else some (_, _)) = _; rw [if_neg (by decide)]) ?_
  refine e_L (L' := [some (aR 188), some (aI v1), none, some (aI v3), some (aI v4), some (aI v5), some (aI u0)]) (st' := [aI v5, aR 188]) (show decode (mC 243) 67 = .ok (.iload 5, 2) by decide +kernel) rfl rfl ?_
  refine e_L (L' := [some (aR 188), some (aI v1), none, some (aI v3), some (aI v4), some (aI v5), some (aI u0)]) (st' := [aI u0, aI v5, aR 188]) (show decode (mC 243) 69 = .ok (.iload 6, 2) by decide +kernel) rfl rfl ?_
  exact e_V (as := [aR 188, aI v5, aI u0]) (rest := []) (show decode (mC 243) 71 = .ok (.invokevirtual 275, 3) by decide +kernel) (by decide +kernel) (show (decide ((3 : Nat) = mA 198) && decide (198 < q_law)) = true by decide +kernel) rfl (show (0 : Nat) ≤ 8 by decide) (show (3 : Nat) ≤ mL 198 by decide +kernel) rfl (sh_ok hG (by decide +kernel)) m0
/-- SoulOfficeModel.years(II)I, from 74 -/
theorem b243_74 (hG : Shp G) {v1 v3 v4 v5 v6 u0 : Int} (hQ : ∀ o o' h', q_eqo o o' → Q o h' → Q o' h')
    (s0 : -2147483648 ≤ u0 ∧ u0 < 2147483648)
    (k1 : (¬ u0 = 0) → T (d + 1) 243 85 [some (aR 188), some (aI v1), none, some (aI v3), some (aI v4), some (aI v5), none] [] (G, c) Q)
    (m2 : (u0 = 0) → TM d 200 [aR 188, aI v5, aI v6] (G, c) (fun r h' => T (d + 1) 243 85 [some (aR 188), some (aI v1), none, some (aI v3), some (aI v4), some (aI v5), none] (r.toList ++ []) h' Q)) :
    T (d + 1) 243 74 [some (aR 188), some (aI v1), none, some (aI v3), some (aI v4), some (aI v5), some (aI v6)] [aI u0] (G, c) Q := by
  refine e_ne1 (t := 85) (show decode (mC 243) 74 = .ok (.ifCond .ne 11, 3) by decide +kernel) (by decide) s0 (fun p1 => ?_) (fun p1 => ?_)
  · exact T_le hQ (leS (leS (leS (leS (leS (leS (leN leE))))))) (k1 p1)
  · refine e_L (L' := [some (aR 188), some (aI v1), none, some (aI v3), some (aI v4), some (aI v5), some (aI v6)]) (st' := [aR 188]) (show decode (mC 243) 77 = .ok (.aload_n 0, 1) by decide +kernel) rfl (by show (if 188 = 0 then none else some (_, _)) = _; rw [if_neg (by decide)]) ?_
    refine e_L (L' := [some (aR 188), some (aI v1), none, some (aI v3), some (aI v4), some (aI v5), some (aI v6)]) (st' := [aI v5, aR 188]) (show decode (mC 243) 78 = .ok (.iload 5, 2) by decide +kernel) rfl rfl ?_
    refine e_L (L' := [some (aR 188), some (aI v1), none, some (aI v3), some (aI v4), some (aI v5), some (aI v6)]) (st' := [aI v6, aI v5, aR 188]) (show decode (mC 243) 80 = .ok (.iload 6, 2) by decide +kernel) rfl rfl ?_
    exact e_V (as := [aR 188, aI v5, aI v6]) (rest := []) (show decode (mC 243) 82 = .ok (.invokevirtual 281, 3) by decide +kernel) (by decide +kernel) (show (decide ((3 : Nat) = mA 200) && decide (200 < q_law)) = true by decide +kernel) rfl (show (0 : Nat) ≤ 8 by decide) (show (3 : Nat) ≤ mL 200 by decide +kernel) rfl (sh_ok hG (by decide +kernel)) (tm_le hQ (leS (leS (leS (leS (leS (leS (leN leE))))))) (m2 p1))
/-- SoulOfficeModel.years(II)I, from 85 -/
theorem b243_85 (hG : Shp G) {v1 v3 v4 v5 : Int}
    (k0 : T (d + 1) 243 26 [some (aR 188), some (aI v1), none, some (aI v3), some (aI v4), some (aI (v5 + 1)), none] [] (G, c) Q) :
    T (d + 1) 243 85 [some (aR 188), some (aI v1), none, some (aI v3), some (aI v4), some (aI v5), none] [] (G, c) Q := by
  refine e_L (L' := [some (aR 188), some (aI v1), none, some (aI v3), some (aI v4), some (aI (v5 + 1)), none]) (st' := []) (show decode (mC 243) 85 = .ok (.iinc 5 1, 3) by decide +kernel) rfl rfl ?_
  refine e_go (t := 26) (show decode (mC 243) 88 = .ok (.goto (-62), 3) by decide +kernel) (by decide) ?_
  exact k0
/-- SoulOfficeModel.years(II)I, from 95 -/
theorem b243_95 (hG : Shp G) {v1 v3 v4 : Int}
    (k0 : T (d + 1) 243 17 [some (aR 188), some (aI v1), none, some (aI v3), some (aI (v4 + 1)), none, none] [] (G, c) Q) :
    T (d + 1) 243 95 [some (aR 188), some (aI v1), none, some (aI v3), some (aI v4), none, none] [] (G, c) Q := by
  refine e_L (L' := [some (aR 188), some (aI v1), none, some (aI v3), some (aI (v4 + 1)), none, none]) (st' := []) (show decode (mC 243) 95 = .ok (.iinc 4 1, 3) by decide +kernel) rfl rfl ?_
  refine e_go (t := 17) (show decode (mC 243) 98 = .ok (.goto (-81), 3) by decide +kernel) (by decide) ?_
  exact k0
/-- SoulOfficeModel.drawn(II)I, from 0 -/
theorem b244_0 (hG : Shp G) {v1 v2 : Int}
    (m0 : TM d 208 [aR 188, aI v1] (G, (q_up c 188 0 0)) (fun r h' => T (d + 1) 244 10 [some (aR 188), some (aI v1), some (aI v2)] (r.toList ++ []) h' Q)) :
    T (d + 1) 244 0 [some (aR 188), some (aI v1), some (aI v2)] [] (G, c) Q := by
  refine e_L (L' := [some (aR 188), some (aI v1), some (aI v2)]) (st' := [aR 188]) (show decode (mC 244) 0 = .ok (.aload_n 0, 1) by decide +kernel) rfl (by show (if 188 = 0 then none else some (_, _)) = _; rw [if_neg (by decide)]) ?_
  refine e_P (st' := [aI 0, aR 188]) (show decode (mC 244) 1 = .ok (.iconst 0, 1) by decide +kernel) rfl rfl rfl ?_
  refine e_putI (show decode (mC 244) 2 = .ok (.putfield 1, 3) by decide +kernel) (show pl 12 1 = some (0, 12, 0, 0) by decide +kernel) (by decide) (sh_ok hG (by decide +kernel)) ?_
  refine e_L (L' := [some (aR 188), some (aI v1), some (aI v2)]) (st' := [aR 188]) (show decode (mC 244) 5 = .ok (.aload_n 0, 1) by decide +kernel) rfl (by show (if 188 = 0 then none else some (_, _)) = _; rw [if_neg (by decide)]) ?_
  refine e_L (L' := [some (aR 188), some (aI v1), some (aI v2)]) (st' := [aI v1, aR 188]) (show decode (mC 244) 6 = .ok (.iload_n 1, 1) by decide +kernel) rfl rfl ?_
  exact e_V (as := [aR 188, aI v1]) (rest := []) (show decode (mC 244) 7 = .ok (.invokevirtual 293, 3) by decide +kernel) (by decide +kernel) (show (decide ((2 : Nat) = mA 208) && decide (208 < q_law)) = true by decide +kernel) rfl (show (0 : Nat) ≤ 8 by decide) (show (2 : Nat) ≤ mL 208 by decide +kernel) rfl (sh_ok hG (by decide +kernel)) m0
/-- SoulOfficeModel.drawn(II)I, from 10 -/
theorem b244_10 (hG : Shp G) {v1 v2 u0 x1 : Int}
    (s0 : -2147483648 ≤ u0 ∧ u0 < 2147483648)
    (z1 : (u0 = 0) → Q (.inl (some (aI (-1)))) (G, c))
    (ex1 : c 190 0 = x1)
    (s3 : (¬ u0 = 0) → -2147483648 ≤ x1 ∧ x1 < 2147483648)
    (m4 : (¬ u0 = 0) → (¬ x1 = 0) → TM d 212 [aR 188] (G, c) (fun r h' => T (d + 1) 244 28 [some (aR 188), some (aI v1), some (aI v2)] (r.toList ++ []) h' Q))
    (z5 : (¬ u0 = 0) → (x1 = 0) → Q (.inl (some (aI (-1)))) (G, c)) :
    T (d + 1) 244 10 [some (aR 188), some (aI v1), some (aI v2)] [aI u0] (G, c) Q := by
  refine e_eq1 (t := 22) (show decode (mC 244) 10 = .ok (.ifCond .eq 12, 3) by decide +kernel) (by decide) s0 (fun p1 => ?_) (fun p1 => ?_)
  · refine e_P (st' := [aI (-1)]) (show decode (mC 244) 22 = .ok (.iconst (-1), 1) by decide +kernel) rfl rfl rfl ?_
    exact e_iret (show decode (mC 244) 23 = .ok (.ireturn, 1) by decide +kernel) rfl (z1 p1)
  · refine e_L (L' := [some (aR 188), some (aI v1), some (aI v2)]) (st' := [aR 188]) (show decode (mC 244) 13 = .ok (.aload_n 0, 1) by decide +kernel) rfl (by show (if 188 = 0 then none else some (_, _)) = _; rw [if_neg (by decide)]) ?_
    refine e_getR (w := 190) (show decode (mC 244) 14 = .ok (.getfield 33, 3) by decide +kernel) (show pl 12 33 = some (0, 12, 6, 0) by decide +kernel) (by decide) (sh_ok hG (by decide +kernel)) (sh_rf hG (by decide +kernel)) ?_
    refine e_P (st' := [aI 0, aR 190]) (show decode (mC 244) 17 = .ok (.iconst 0, 1) by decide +kernel) rfl rfl rfl ?_
    refine e_ialdx (n := 514) (show decode (mC 244) 18 = .ok (.iaload, 1) by decide +kernel) (sh_ok hG (by decide +kernel)) (sh_ln hG (by decide +kernel)) (by decide) (by decide) (by decide) ex1 ?_
    refine e_ne1 (t := 24) (show decode (mC 244) 19 = .ok (.ifCond .ne 5, 3) by decide +kernel) (by decide) (s3 p1) (fun p2 => ?_) (fun p2 => ?_)
    · refine e_L (L' := [some (aR 188), some (aI v1), some (aI v2)]) (st' := [aR 188]) (show decode (mC 244) 24 = .ok (.aload_n 0, 1) by decide +kernel) rfl (by show (if 188 = 0 then none else some (_, _)) = _; rw [if_neg (by decide)]) ?_
      exact e_V (as := [aR 188]) (rest := []) (show decode (mC 244) 25 = .ok (.invokevirtual 290, 3) by decide +kernel) (by decide +kernel) (show (decide ((1 : Nat) = mA 212) && decide (212 < q_law)) = true by decide +kernel) rfl (show (0 : Nat) ≤ 8 by decide) (show (1 : Nat) ≤ mL 212 by decide +kernel) rfl (sh_ok hG (by decide +kernel)) (m4 p1 p2)
    · refine e_P (st' := [aI (-1)]) (show decode (mC 244) 22 = .ok (.iconst (-1), 1) by decide +kernel) rfl rfl rfl ?_
      exact e_iret (show decode (mC 244) 23 = .ok (.ireturn, 1) by decide +kernel) rfl (z5 p1 p2)
/-- SoulOfficeModel.drawn(II)I, from 28 -/
theorem b244_28 (hG : Shp G) {v1 v2 : Int} (hQ : ∀ o o' h', q_eqo o o' → Q o h' → Q o' h')
    (m0 : TM d 243 [aR 188, aI v1, aI v2] (G, c) (fun r h' => T (d + 1) 244 34 [none, none, none] (r.toList ++ []) h' Q)) :
    T (d + 1) 244 28 [some (aR 188), some (aI v1), some (aI v2)] [] (G, c) Q := by
  refine e_L (L' := [some (aR 188), some (aI v1), some (aI v2)]) (st' := [aR 188]) (show decode (mC 244) 28 = .ok (.aload_n 0, 1) by decide +kernel) rfl (by show (if 188 = 0 then none else some (_, _)) = _; rw [if_neg (by decide)]) ?_
  refine e_L (L' := [some (aR 188), some (aI v1), some (aI v2)]) (st' := [aI v1, aR 188]) (show decode (mC 244) 29 = .ok (.iload_n 1, 1) by decide +kernel) rfl rfl ?_
  refine e_L (L' := [some (aR 188), some (aI v1), some (aI v2)]) (st' := [aI v2, aI v1, aR 188]) (show decode (mC 244) 30 = .ok (.iload_n 2, 1) by decide +kernel) rfl rfl ?_
  exact e_V (as := [aR 188, aI v1, aI v2]) (rest := []) (show decode (mC 244) 31 = .ok (.invokevirtual 360, 3) by decide +kernel) (by decide +kernel) (show (decide ((3 : Nat) = mA 243) && decide (243 < q_law)) = true by decide +kernel) rfl (show (0 : Nat) ≤ 8 by decide) (show (3 : Nat) ≤ mL 243 by decide +kernel) rfl (sh_ok hG (by decide +kernel)) (tm_le hQ (leN (leN (leN leE))) m0)
/-- SoulOfficeModel.drawn(II)I, from 34 -/
theorem b244_34 (hG : Shp G) {u0 : Int}
    (z0 : Q (.inl (some (aI u0))) (G, c)) :
    T (d + 1) 244 34 [none, none, none] [aI u0] (G, c) Q := by
  exact e_iret (show decode (mC 244) 34 = .ok (.ireturn, 1) by decide +kernel) rfl z0
/-- SoulOfficeModel.odds(II)I, from 0 -/
theorem b245_0 (hG : Shp G) {v1 v2 : Int}
    (m0 : TM d 164 [aI v1, aI 1, aI 40] (G, (q_up c 188 0 0)) (fun r h' => T (d + 1) 245 12 [some (aR 188), some (aI v1), some (aI v2), none, none, none] (r.toList ++ []) h' Q)) :
    T (d + 1) 245 0 [some (aR 188), some (aI v1), some (aI v2), none, none, none] [] (G, c) Q := by
  refine e_L (L' := [some (aR 188), some (aI v1), some (aI v2), none, none, none]) (st' := [aR 188]) (show decode (mC 245) 0 = .ok (.aload_n 0, 1) by decide +kernel) rfl (by show (if 188 = 0 then none else some (_, _)) = _; rw [if_neg (by decide)]) ?_
  refine e_P (st' := [aI 0, aR 188]) (show decode (mC 245) 1 = .ok (.iconst 0, 1) by decide +kernel) rfl rfl rfl ?_
  refine e_putI (show decode (mC 245) 2 = .ok (.putfield 1, 3) by decide +kernel) (show pl 12 1 = some (0, 12, 0, 0) by decide +kernel) (by decide) (sh_ok hG (by decide +kernel)) ?_
  refine e_L (L' := [some (aR 188), some (aI v1), some (aI v2), none, none, none]) (st' := [aI v1]) (show decode (mC 245) 5 = .ok (.iload_n 1, 1) by decide +kernel) rfl rfl ?_
  refine e_P (st' := [aI 1, aI v1]) (show decode (mC 245) 6 = .ok (.iconst 1, 1) by decide +kernel) rfl rfl rfl ?_
  refine e_P (st' := [aI 40, aI 1, aI v1]) (show decode (mC 245) 7 = .ok (.bipush 40, 2) by decide +kernel) rfl rfl rfl ?_
  exact e_S (as := [aI v1, aI 1, aI 40]) (rest := []) (show decode (mC 245) 9 = .ok (.invokestatic 184, 3) by decide +kernel) (by decide +kernel) (show (decide ((3 : Nat) = mA 164) && decide (164 < q_law)) = true by decide +kernel) rfl (show (0 : Nat) ≤ 8 by decide) (show (3 : Nat) ≤ mL 164 by decide +kernel) m0
/-- SoulOfficeModel.odds(II)I, from 12 -/
theorem b245_12 (hG : Shp G) {v1 v2 u0 x1 : Int}
    (s0 : -2147483648 ≤ u0 ∧ u0 < 2147483648)
    (z1 : (u0 = 0) → Q (.inl (some (aI (-1)))) (G, c))
    (ex1 : c 190 0 = x1)
    (s3 : (¬ u0 = 0) → -2147483648 ≤ x1 ∧ x1 < 2147483648)
    (m4 : (¬ u0 = 0) → (¬ x1 = 0) → TM d 214 [aR 188] (G, c) (fun r h' => T (d + 1) 245 30 [some (aR 188), some (aI v1), some (aI v2), none, none, none] (r.toList ++ []) h' Q))
    (z5 : (¬ u0 = 0) → (x1 = 0) → Q (.inl (some (aI (-1)))) (G, c)) :
    T (d + 1) 245 12 [some (aR 188), some (aI v1), some (aI v2), none, none, none] [aI u0] (G, c) Q := by
  refine e_eq1 (t := 24) (show decode (mC 245) 12 = .ok (.ifCond .eq 12, 3) by decide +kernel) (by decide) s0 (fun p1 => ?_) (fun p1 => ?_)
  · refine e_P (st' := [aI (-1)]) (show decode (mC 245) 24 = .ok (.iconst (-1), 1) by decide +kernel) rfl rfl rfl ?_
    exact e_iret (show decode (mC 245) 25 = .ok (.ireturn, 1) by decide +kernel) rfl (z1 p1)
  · refine e_L (L' := [some (aR 188), some (aI v1), some (aI v2), none, none, none]) (st' := [aR 188]) (show decode (mC 245) 15 = .ok (.aload_n 0, 1) by decide +kernel) rfl (by show (if 188 = 0 then none else some (_, _)) = _; rw [if_neg (by decide)]) ?_
    refine e_getR (w := 190) (show decode (mC 245) 16 = .ok (.getfield 33, 3) by decide +kernel) (show pl 12 33 = some (0, 12, 6, 0) by decide +kernel) (by decide) (sh_ok hG (by decide +kernel)) (sh_rf hG (by decide +kernel)) ?_
    refine e_P (st' := [aI 0, aR 190]) (show decode (mC 245) 19 = .ok (.iconst 0, 1) by decide +kernel) rfl rfl rfl ?_
    refine e_ialdx (n := 514) (show decode (mC 245) 20 = .ok (.iaload, 1) by decide +kernel) (sh_ok hG (by decide +kernel)) (sh_ln hG (by decide +kernel)) (by decide) (by decide) (by decide) ex1 ?_
    refine e_ne1 (t := 26) (show decode (mC 245) 21 = .ok (.ifCond .ne 5, 3) by decide +kernel) (by decide) (s3 p1) (fun p2 => ?_) (fun p2 => ?_)
    · refine e_L (L' := [some (aR 188), some (aI v1), some (aI v2), none, none, none]) (st' := [aR 188]) (show decode (mC 245) 26 = .ok (.aload_n 0, 1) by decide +kernel) rfl (by show (if 188 = 0 then none else some (_, _)) = _; rw [if_neg (by decide)]) ?_
      exact e_V (as := [aR 188]) (rest := []) (show decode (mC 245) 27 = .ok (.invokevirtual 299, 3) by decide +kernel) (by decide +kernel) (show (decide ((1 : Nat) = mA 214) && decide (214 < q_law)) = true by decide +kernel) rfl (show (0 : Nat) ≤ 8 by decide) (show (1 : Nat) ≤ mL 214 by decide +kernel) rfl (sh_ok hG (by decide +kernel)) (m4 p1 p2)
    · refine e_P (st' := [aI (-1)]) (show decode (mC 245) 24 = .ok (.iconst (-1), 1) by decide +kernel) rfl rfl rfl ?_
      exact e_iret (show decode (mC 245) 25 = .ok (.ireturn, 1) by decide +kernel) rfl (z5 p1 p2)
/-- SoulOfficeModel.odds(II)I, from 30 -/
theorem b245_30 (hG : Shp G) {v1 v2 : Int}
    (m0 : TM d 239 [aR 188, aI 30] (G, c) (fun r h' => T (d + 1) 245 36 [some (aR 188), some (aI v1), some (aI v2), none, none, none] (r.toList ++ []) h' Q)) :
    T (d + 1) 245 30 [some (aR 188), some (aI v1), some (aI v2), none, none, none] [] (G, c) Q := by
  refine e_L (L' := [some (aR 188), some (aI v1), some (aI v2), none, none, none]) (st' := [aR 188]) (show decode (mC 245) 30 = .ok (.aload_n 0, 1) by decide +kernel) rfl (by show (if 188 = 0 then none else some (_, _)) = _; rw [if_neg (by decide)]) ?_
  refine e_P (st' := [aI 30, aR 188]) (show decode (mC 245) 31 = .ok (.bipush 30, 2) by decide +kernel) rfl rfl rfl ?_
  exact e_V (as := [aR 188, aI 30]) (rest := []) (show decode (mC 245) 33 = .ok (.invokevirtual 350, 3) by decide +kernel) (by decide +kernel) (show (decide ((2 : Nat) = mA 239) && decide (239 < q_law)) = true by decide +kernel) rfl (show (0 : Nat) ≤ 8 by decide) (show (2 : Nat) ≤ mL 239 by decide +kernel) rfl (sh_ok hG (by decide +kernel)) m0
/-- SoulOfficeModel.odds(II)I, from 36 -/
theorem b245_36 (hG : Shp G) {v1 v2 u0 : Int}
    (k0 : T (d + 1) 245 43 [some (aR 188), some (aI v1), some (aI v2), some (aI u0), some (aI 0), some (aI 0)] [] (G, c) Q) :
    T (d + 1) 245 36 [some (aR 188), some (aI v1), some (aI v2), none, none, none] [aI u0] (G, c) Q := by
  refine e_L (L' := [some (aR 188), some (aI v1), some (aI v2), some (aI u0), none, none]) (st' := []) (show decode (mC 245) 36 = .ok (.istore_n 3, 1) by decide +kernel) rfl rfl ?_
  refine e_P (st' := [aI 0]) (show decode (mC 245) 37 = .ok (.iconst 0, 1) by decide +kernel) rfl rfl rfl ?_
  refine e_L (L' := [some (aR 188), some (aI v1), some (aI v2), some (aI u0), some (aI 0), none]) (st' := []) (show decode (mC 245) 38 = .ok (.istore 4, 2) by decide +kernel) rfl rfl ?_
  refine e_P (st' := [aI 0]) (show decode (mC 245) 40 = .ok (.iconst 0, 1) by decide +kernel) rfl rfl rfl ?_
  refine e_L (L' := [some (aR 188), some (aI v1), some (aI v2), some (aI u0), some (aI 0), some (aI 0)]) (st' := []) (show decode (mC 245) 41 = .ok (.istore 5, 2) by decide +kernel) rfl rfl ?_
  exact k0
/-- SoulOfficeModel.odds(II)I, from 43 -/
theorem b245_43 (hG : Shp G) {v1 v2 v3 v4 v5 : Int}
    (s0 : -2147483648 ≤ v5 ∧ v5 < 2147483648)
    (s1 : -2147483648 ≤ v1 ∧ v1 < 2147483648)
    (z2 : (v1 ≤ v5) → Q (.inl (some (aI v4))) (G, c))
    (m3 : (v5 < v1) → TM d 243 [aR 188, aI 30, aI (v2 + v5)] (G, c) (fun r h' => T (d + 1) 245 59 [some (aR 188), some (aI v1), some (aI v2), some (aI v3), some (aI v4), some (aI v5)] (r.toList ++ []) h' Q)) :
    T (d + 1) 245 43 [some (aR 188), some (aI v1), some (aI v2), some (aI v3), some (aI v4), some (aI v5)] [] (G, c) Q := by
  refine e_L (L' := [some (aR 188), some (aI v1), some (aI v2), some (aI v3), some (aI v4), some (aI v5)]) (st' := [aI v5]) (show decode (mC 245) 43 = .ok (.iload 5, 2) by decide +kernel) rfl rfl ?_
  refine e_L (L' := [some (aR 188), some (aI v1), some (aI v2), some (aI v3), some (aI v4), some (aI v5)]) (st' := [aI v1, aI v5]) (show decode (mC 245) 45 = .ok (.iload_n 1, 1) by decide +kernel) rfl rfl ?_
  refine e_ge2 (t := 88) (show decode (mC 245) 46 = .ok (.if_icmp .ge 42, 3) by decide +kernel) (by decide) s0 s1 (fun p1 => ?_) (fun p1 => ?_)
  · refine e_L (L' := [some (aR 188), some (aI v1), some (aI v2), some (aI v3), some (aI v4), some (aI v5)]) (st' := [aI v4]) (show decode (mC 245) 88 = .ok (.iload 4, 2) by decide +kernel) rfl rfl ?_
    exact e_iret (show decode (mC 245) 90 = .ok (.ireturn, 1) by decide +kernel) rfl (z2 p1)
  · refine e_L (L' := [some (aR 188), some (aI v1), some (aI v2), some (aI v3), some (aI v4), some (aI v5)]) (st' := [aR 188]) (show decode (mC 245) 49 = .ok (.aload_n 0, 1) by decide +kernel) rfl (by show (if 188 = 0 then none else some (_, _)) = _; rw [if_neg (by decide)]) ?_
    refine e_P (st' := [aI 30, aR 188]) (show decode (mC 245) 50 = .ok (.bipush 30, 2) by decide +kernel) rfl rfl rfl ?_
    refine e_L (L' := [some (aR 188), some (aI v1), some (aI v2), some (aI v3), some (aI v4), some (aI v5)]) (st' := [aI v2, aI 30, aR 188]) (show decode (mC 245) 52 = .ok (.iload_n 2, 1) by decide +kernel) rfl rfl ?_
    refine e_L (L' := [some (aR 188), some (aI v1), some (aI v2), some (aI v3), some (aI v4), some (aI v5)]) (st' := [aI v5, aI v2, aI 30, aR 188]) (show decode (mC 245) 53 = .ok (.iload 5, 2) by decide +kernel) rfl rfl ?_
    refine e_P (st' := [aI (v2 + v5), aI 30, aR 188]) (show decode (mC 245) 55 = .ok (.iadd, 1) by decide +kernel) rfl rfl rfl ?_
    exact e_V (as := [aR 188, aI 30, aI (v2 + v5)]) (rest := []) (show decode (mC 245) 56 = .ok (.invokevirtual 360, 3) by decide +kernel) (by decide +kernel) (show (decide ((3 : Nat) = mA 243) && decide (243 < q_law)) = true by decide +kernel) rfl (show (0 : Nat) ≤ 8 by decide) (show (3 : Nat) ≤ mL 243 by decide +kernel) rfl (sh_ok hG (by decide +kernel)) (m3 p1)
/-- SoulOfficeModel.odds(II)I, from 59 -/
theorem b245_59 (hG : Shp G) {v1 v2 v3 v4 v5 u0 : Int} (hQ : ∀ o o' h', q_eqo o o' → Q o h' → Q o' h')
    (m0 : TM d 196 [aR 188] (G, c) (fun r h' => T (d + 1) 245 66 [some (aR 188), some (aI v1), some (aI v2), some (aI v3), none, some (aI v5)] (r.toList ++ [aI v4]) h' Q)) :
    T (d + 1) 245 59 [some (aR 188), some (aI v1), some (aI v2), some (aI v3), some (aI v4), some (aI v5)] [aI u0] (G, c) Q := by
  refine e_P (st' := []) (show decode (mC 245) 59 = .ok (.pop, 1) by decide +kernel) rfl rfl rfl ?_
  refine e_L (L' := [some (aR 188), some (aI v1), some (aI v2), some (aI v3), some (aI v4), some (aI v5)]) (st' := [aI v4]) (show decode (mC 245) 60 = .ok (.iload 4, 2) by decide +kernel) rfl rfl ?_
  refine e_L (L' := [some (aR 188), some (aI v1), some (aI v2), some (aI v3), some (aI v4), some (aI v5)]) (st' := [aR 188, aI v4]) (show decode (mC 245) 62 = .ok (.aload_n 0, 1) by decide +kernel) rfl (by show (if 188 = 0 then none else some (_, _)) = _; rw [if_neg (by decide)]) ?_
  exact e_V (as := [aR 188]) (rest := [aI v4]) (show decode (mC 245) 63 = .ok (.invokevirtual 261, 3) by decide +kernel) (by decide +kernel) (show (decide ((1 : Nat) = mA 196) && decide (196 < q_law)) = true by decide +kernel) rfl (show (1 : Nat) ≤ 8 by decide) (show (1 : Nat) ≤ mL 196 by decide +kernel) rfl (sh_ok hG (by decide +kernel)) (tm_le hQ (leS (leS (leS (leS (leN (leS leE)))))) m0)
/-- SoulOfficeModel.odds(II)I, from 66 -/
theorem b245_66 (hG : Shp G) {v1 v2 v3 v5 u0 u1 : Int}
    (s0 : -2147483648 ≤ u1 ∧ u1 < 2147483648)
    (s1 : -2147483648 ≤ v3 ∧ v3 < 2147483648)
    (m2 : (v3 ≤ u1) → TM d 215 [aR 188] (G, c) (fun r h' => T (d + 1) 245 82 [some (aR 188), some (aI v1), some (aI v2), some (aI v3), some (aI (u0 + 0)), some (aI v5)] (r.toList ++ []) h' Q))
    (m3 : (u1 < v3) → TM d 215 [aR 188] (G, c) (fun r h' => T (d + 1) 245 82 [some (aR 188), some (aI v1), some (aI v2), some (aI v3), some (aI (u0 + 1)), some (aI v5)] (r.toList ++ []) h' Q)) :
    T (d + 1) 245 66 [some (aR 188), some (aI v1), some (aI v2), some (aI v3), none, some (aI v5)] [aI u1, aI u0] (G, c) Q := by
  refine e_L (L' := [some (aR 188), some (aI v1), some (aI v2), some (aI v3), none, some (aI v5)]) (st' := [aI v3, aI u1, aI u0]) (show decode (mC 245) 66 = .ok (.iload_n 3, 1) by decide +kernel) rfl rfl ?_
  refine e_ge2 (t := 74) (show decode (mC 245) 67 = .ok (.if_icmp .ge 7, 3) by decide +kernel) (by decide) s0 s1 (fun p1 => ?_) (fun p1 => ?_)
  · refine e_P (st' := [aI 0, aI u0]) (show decode (mC 245) 74 = .ok (.iconst 0, 1) by decide +kernel) rfl rfl rfl ?_
    refine e_P (st' := [aI (u0 + 0)]) (show decode (mC 245) 75 = .ok (.iadd, 1) by decide +kernel) rfl rfl rfl ?_
    refine e_L (L' := [some (aR 188), some (aI v1), some (aI v2), some (aI v3), some (aI (u0 + 0)), some (aI v5)]) (st' := []) (show decode (mC 245) 76 = .ok (.istore 4, 2) by decide +kernel) rfl rfl ?_
    refine e_L (L' := [some (aR 188), some (aI v1), some (aI v2), some (aI v3), some (aI (u0 + 0)), some (aI v5)]) (st' := [aR 188]) (show decode (mC 245) 78 = .ok (.aload_n 0, 1) by decide +kernel) rfl (by show (if 188 = 0 then none else some (_, _)) = _; rw [if_neg (by decide)]) ?_
    exact e_V (as := [aR 188]) (rest := []) (show decode (mC 245) 79 = .ok (.invokevirtual 305, 3) by decide +kernel) (by decide +kernel) (show (decide ((1 : Nat) = mA 215) && decide (215 < q_law)) = true by decide +kernel) rfl (show (0 : Nat) ≤ 8 by decide) (show (1 : Nat) ≤ mL 215 by decide +kernel) rfl (sh_ok hG (by decide +kernel)) (m2 p1)
  · refine e_P (st' := [aI 1, aI u0]) (show decode (mC 245) 70 = .ok (.iconst 1, 1) by decide +kernel) rfl rfl rfl ?_
    refine e_go (t := 75) (show decode (mC 245) 71 = .ok (.goto 4, 3) by decide +kernel) (by decide) ?_
    refine e_P (st' := [aI (u0 + 1)]) (show decode (mC 245) 75 = .ok (.iadd, 1) by decide +kernel) rfl rfl rfl ?_
    refine e_L (L' := [some (aR 188), some (aI v1), some (aI v2), some (aI v3), some (aI (u0 + 1)), some (aI v5)]) (st' := []) (show decode (mC 245) 76 = .ok (.istore 4, 2) by decide +kernel) rfl rfl ?_
    refine e_L (L' := [some (aR 188), some (aI v1), some (aI v2), some (aI v3), some (aI (u0 + 1)), some (aI v5)]) (st' := [aR 188]) (show decode (mC 245) 78 = .ok (.aload_n 0, 1) by decide +kernel) rfl (by show (if 188 = 0 then none else some (_, _)) = _; rw [if_neg (by decide)]) ?_
    exact e_V (as := [aR 188]) (rest := []) (show decode (mC 245) 79 = .ok (.invokevirtual 305, 3) by decide +kernel) (by decide +kernel) (show (decide ((1 : Nat) = mA 215) && decide (215 < q_law)) = true by decide +kernel) rfl (show (0 : Nat) ≤ 8 by decide) (show (1 : Nat) ≤ mL 215 by decide +kernel) rfl (sh_ok hG (by decide +kernel)) (m3 p1)
/-- SoulOfficeModel.odds(II)I, from 82 -/
theorem b245_82 (hG : Shp G) {v1 v2 v3 v4 v5 : Int}
    (k0 : T (d + 1) 245 43 [some (aR 188), some (aI v1), some (aI v2), some (aI v3), some (aI v4), some (aI (v5 + 1))] [] (G, c) Q) :
    T (d + 1) 245 82 [some (aR 188), some (aI v1), some (aI v2), some (aI v3), some (aI v4), some (aI v5)] [] (G, c) Q := by
  refine e_L (L' := [some (aR 188), some (aI v1), some (aI v2), some (aI v3), some (aI v4), some (aI (v5 + 1))]) (st' := []) (show decode (mC 245) 82 = .ok (.iinc 5 1, 3) by decide +kernel) rfl rfl ?_
  refine e_go (t := 43) (show decode (mC 245) 85 = .ok (.goto (-42), 3) by decide +kernel) (by decide) ?_
  exact k0
/-- SoulOfficeModel.greatestOf(II)I, from 0 -/
theorem b246_0 (hG : Shp G) {v1 v2 x1 : Int} (hQ : ∀ o o' h', q_eqo o o' → Q o h' → Q o' h')
    (s0 : -2147483648 ≤ v2 ∧ v2 < 2147483648)
    (s1 : (¬ v2 = 0) → (¬ v2 = 1) → 0 ≤ (189 + v1))
    (s2 : (¬ v2 = 0) → (¬ v2 = 1) → (189 + v1) < 514)
    (ex1 : c 190 (189 + v1) = x1)
    (z4 : (¬ v2 = 0) → (¬ v2 = 1) → Q (.inl (some (aI x1))) (G, c))
    (m5 : (¬ v2 = 0) → (v2 = 1) → TM d 193 [aR 188, aI v1] (G, c) (fun r h' => T (d + 1) 246 22 [none, none, none] (r.toList ++ []) h' Q))
    (m6 : (v2 = 0) → TM d 192 [aR 188, aI v1] (G, c) (fun r h' => T (d + 1) 246 9 [none, none, none] (r.toList ++ []) h' Q)) :
    T (d + 1) 246 0 [some (aR 188), some (aI v1), some (aI v2)] [] (G, c) Q := by
  refine e_L (L' := [some (aR 188), some (aI v1), some (aI v2)]) (st' := [aI v2]) (show decode (mC 246) 0 = .ok (.iload_n 2, 1) by decide +kernel) rfl rfl ?_
  refine e_ne1 (t := 12) (show decode (mC 246) 1 = .ok (.ifCond .ne 11, 3) by decide +kernel) (by decide) s0 (fun p1 => ?_) (fun p1 => ?_)
  · refine e_L (L' := [some (aR 188), some (aI v1), some (aI v2)]) (st' := [aI v2]) (show decode (mC 246) 12 = .ok (.iload_n 2, 1) by decide +kernel) rfl rfl ?_
    refine e_P (st' := [aI 1, aI v2]) (show decode (mC 246) 13 = .ok (.iconst 1, 1) by decide +kernel) rfl rfl rfl ?_
    refine e_ne2 (t := 25) (show decode (mC 246) 14 = .ok (.if_icmp .ne 11, 3) by decide +kernel) (by decide) s0 (by decide) (fun p2 => ?_) (fun p2 => ?_)
    · refine e_L (L' := [some (aR 188), some (aI v1), some (aI v2)]) (st' := [aR 188]) (show decode (mC 246) 25 = .ok (.aload_n 0, 1) by decide +kernel) rfl (by show (if 188 = 0 then none else some (_, _)) = _; rw [if_neg (by decide)]) ?_
      refine e_getR (w := 190) (show decode (mC 246) 26 = .ok (.getfield 33, 3) by decide +kernel) (show pl 12 33 = some (0, 12, 6, 0) by decide +kernel) (by decide) (sh_ok hG (by decide +kernel)) (sh_rf hG (by decide +kernel)) ?_
      refine e_P (st' := [aI 189, aR 190]) (show decode (mC 246) 29 = .ok (.sipush 189, 3) by decide +kernel) rfl rfl rfl ?_
      refine e_L (L' := [some (aR 188), some (aI v1), some (aI v2)]) (st' := [aI v1, aI 189, aR 190]) (show decode (mC 246) 32 = .ok (.iload_n 1, 1) by decide +kernel) rfl rfl ?_
      refine e_P (st' := [aI (189 + v1), aR 190]) (show decode (mC 246) 33 = .ok (.iadd, 1) by decide +kernel) rfl rfl rfl ?_
      refine e_ialdx (n := 514) (show decode (mC 246) 34 = .ok (.iaload, 1) by decide +kernel) (sh_ok hG (by decide +kernel)) (sh_ln hG (by decide +kernel)) (by decide) (s1 p1 p2) (s2 p1 p2) ex1 ?_
      exact e_iret (show decode (mC 246) 35 = .ok (.ireturn, 1) by decide +kernel) rfl (z4 p1 p2)
    · refine e_L (L' := [some (aR 188), some (aI v1), some (aI v2)]) (st' := [aR 188]) (show decode (mC 246) 17 = .ok (.aload_n 0, 1) by decide +kernel) rfl (by show (if 188 = 0 then none else some (_, _)) = _; rw [if_neg (by decide)]) ?_
      refine e_L (L' := [some (aR 188), some (aI v1), some (aI v2)]) (st' := [aI v1, aR 188]) (show decode (mC 246) 18 = .ok (.iload_n 1, 1) by decide +kernel) rfl rfl ?_
      exact e_V (as := [aR 188, aI v1]) (rest := []) (show decode (mC 246) 19 = .ok (.invokevirtual 258, 3) by decide +kernel) (by decide +kernel) (show (decide ((2 : Nat) = mA 193) && decide (193 < q_law)) = true by decide +kernel) rfl (show (0 : Nat) ≤ 8 by decide) (show (2 : Nat) ≤ mL 193 by decide +kernel) rfl (sh_ok hG (by decide +kernel)) (tm_le hQ (leN (leN (leN leE))) (m5 p1 p2))
  · refine e_L (L' := [some (aR 188), some (aI v1), some (aI v2)]) (st' := [aR 188]) (show decode (mC 246) 4 = .ok (.aload_n 0, 1) by decide +kernel) rfl (by show (if 188 = 0 then none else some (_, _)) = _; rw [if_neg (by decide)]) ?_
    refine e_L (L' := [some (aR 188), some (aI v1), some (aI v2)]) (st' := [aI v1, aR 188]) (show decode (mC 246) 5 = .ok (.iload_n 1, 1) by decide +kernel) rfl rfl ?_
    exact e_V (as := [aR 188, aI v1]) (rest := []) (show decode (mC 246) 6 = .ok (.invokevirtual 255, 3) by decide +kernel) (by decide +kernel) (show (decide ((2 : Nat) = mA 192) && decide (192 < q_law)) = true by decide +kernel) rfl (show (0 : Nat) ≤ 8 by decide) (show (2 : Nat) ≤ mL 192 by decide +kernel) rfl (sh_ok hG (by decide +kernel)) (tm_le hQ (leN (leN (leN leE))) (m6 p1))
/-- SoulOfficeModel.greatestOf(II)I, from 9 -/
theorem b246_9 (hG : Shp G) {u0 : Int}
    (z0 : Q (.inl (some (aI u0))) (G, c)) :
    T (d + 1) 246 9 [none, none, none] [aI u0] (G, c) Q := by
  refine e_go (t := 35) (show decode (mC 246) 9 = .ok (.goto 26, 3) by decide +kernel) (by decide) ?_
  exact e_iret (show decode (mC 246) 35 = .ok (.ireturn, 1) by decide +kernel) rfl z0
/-- SoulOfficeModel.greatestOf(II)I, from 22 -/
theorem b246_22 (hG : Shp G) {u0 : Int}
    (z0 : Q (.inl (some (aI u0))) (G, c)) :
    T (d + 1) 246 22 [none, none, none] [aI u0] (G, c) Q := by
  refine e_go (t := 35) (show decode (mC 246) 22 = .ok (.goto 13, 3) by decide +kernel) (by decide) ?_
  exact e_iret (show decode (mC 246) 35 = .ok (.ireturn, 1) by decide +kernel) rfl z0
/-- SoulOfficeModel.greatest(I)I, from 0 -/
theorem b247_0 (hG : Shp G) {v1 : Int}
    (m0 : TM d 164 [aI v1, aI 0, aI 2] (G, (q_up c 188 0 0)) (fun r h' => T (d + 1) 247 11 [some (aR 188), some (aI v1), none, none] (r.toList ++ []) h' Q)) :
    T (d + 1) 247 0 [some (aR 188), some (aI v1), none, none] [] (G, c) Q := by
  refine e_L (L' := [some (aR 188), some (aI v1), none, none]) (st' := [aR 188]) (show decode (mC 247) 0 = .ok (.aload_n 0, 1) by decide +kernel) rfl (by show (if 188 = 0 then none else some (_, _)) = _; rw [if_neg (by decide)]) ?_
  refine e_P (st' := [aI 0, aR 188]) (show decode (mC 247) 1 = .ok (.iconst 0, 1) by decide +kernel) rfl rfl rfl ?_
  refine e_putI (show decode (mC 247) 2 = .ok (.putfield 1, 3) by decide +kernel) (show pl 12 1 = some (0, 12, 0, 0) by decide +kernel) (by decide) (sh_ok hG (by decide +kernel)) ?_
  refine e_L (L' := [some (aR 188), some (aI v1), none, none]) (st' := [aI v1]) (show decode (mC 247) 5 = .ok (.iload_n 1, 1) by decide +kernel) rfl rfl ?_
  refine e_P (st' := [aI 0, aI v1]) (show decode (mC 247) 6 = .ok (.iconst 0, 1) by decide +kernel) rfl rfl rfl ?_
  refine e_P (st' := [aI 2, aI 0, aI v1]) (show decode (mC 247) 7 = .ok (.iconst 2, 1) by decide +kernel) rfl rfl rfl ?_
  exact e_S (as := [aI v1, aI 0, aI 2]) (rest := []) (show decode (mC 247) 8 = .ok (.invokestatic 184, 3) by decide +kernel) (by decide +kernel) (show (decide ((3 : Nat) = mA 164) && decide (164 < q_law)) = true by decide +kernel) rfl (show (0 : Nat) ≤ 8 by decide) (show (3 : Nat) ≤ mL 164 by decide +kernel) m0
/-- SoulOfficeModel.greatest(I)I, from 11 -/
theorem b247_11 (hG : Shp G) {v1 u0 : Int}
    (s0 : -2147483648 ≤ u0 ∧ u0 < 2147483648)
    (k1 : (¬ u0 = 0) → T (d + 1) 247 20 [some (aR 188), some (aI v1), some (aI (-1)), some (aI 0)] [] (G, c) Q)
    (z2 : (u0 = 0) → Q (.inl (some (aI (-1)))) (G, c)) :
    T (d + 1) 247 11 [some (aR 188), some (aI v1), none, none] [aI u0] (G, c) Q := by
  refine e_ne1 (t := 16) (show decode (mC 247) 11 = .ok (.ifCond .ne 5, 3) by decide +kernel) (by decide) s0 (fun p1 => ?_) (fun p1 => ?_)
  · refine e_P (st' := [aI (-1)]) (show decode (mC 247) 16 = .ok (.iconst (-1), 1) by decide +kernel) rfl rfl rfl ?_
    refine e_L (L' := [some (aR 188), some (aI v1), some (aI (-1)), none]) (st' := []) (show decode (mC 247) 17 = .ok (.istore_n 2, 1) by decide +kernel) rfl rfl ?_
    refine e_P (st' := [aI 0]) (show decode (mC 247) 18 = .ok (.iconst 0, 1) by decide +kernel) rfl rfl rfl ?_
    refine e_L (L' := [some (aR 188), some (aI v1), some (aI (-1)), some (aI 0)]) (st' := []) (show decode (mC 247) 19 = .ok (.istore_n 3, 1) by decide +kernel) rfl rfl ?_
    exact (k1 p1)
  · refine e_P (st' := [aI (-1)]) (show decode (mC 247) 14 = .ok (.iconst (-1), 1) by decide +kernel) rfl rfl rfl ?_
    exact e_iret (show decode (mC 247) 15 = .ok (.ireturn, 1) by decide +kernel) rfl (z2 p1)
/-- SoulOfficeModel.greatest(I)I, from 20 -/
theorem b247_20 (hG : Shp G) {v1 v2 v3 x1 : Int}
    (ex1 : c 190 1 = x1)
    (s1 : -2147483648 ≤ v3 ∧ v3 < 2147483648)
    (s2 : -2147483648 ≤ x1 ∧ x1 < 2147483648)
    (z3 : (x1 ≤ v3) → Q (.inl (some (aI v2))) (G, c))
    (s4 : (v3 < x1) → -2147483648 ≤ v2 ∧ v2 < 2147483648)
    (k5 : (v3 < x1) → (v2 < 0) → T (d + 1) 247 20 [some (aR 188), some (aI v1), some (aI v3), some (aI (v3 + 1))] [] (G, c) Q)
    (m6 : (v3 < x1) → (0 ≤ v2) → TM d 246 [aR 188, aI v3, aI v1] (G, c) (fun r h' => T (d + 1) 247 40 [some (aR 188), some (aI v1), some (aI v2), some (aI v3)] (r.toList ++ []) h' Q)) :
    T (d + 1) 247 20 [some (aR 188), some (aI v1), some (aI v2), some (aI v3)] [] (G, c) Q := by
  refine e_L (L' := [some (aR 188), some (aI v1), some (aI v2), some (aI v3)]) (st' := [aI v3]) (show decode (mC 247) 20 = .ok (.iload_n 3, 1) by decide +kernel) rfl rfl ?_
  refine e_L (L' := [some (aR 188), some (aI v1), some (aI v2), some (aI v3)]) (st' := [aR 188, aI v3]) (show decode (mC 247) 21 = .ok (.aload_n 0, 1) by decide +kernel) rfl (by show (if 188 = 0 then none else some (_, _)) = _; rw [if_neg (by decide)]) ?_
  refine e_getR (w := 190) (show decode (mC 247) 22 = .ok (.getfield 33, 3) by decide +kernel) (show pl 12 33 = some (0, 12, 6, 0) by decide +kernel) (by decide) (sh_ok hG (by decide +kernel)) (sh_rf hG (by decide +kernel)) ?_
  refine e_P (st' := [aI 1, aR 190, aI v3]) (show decode (mC 247) 25 = .ok (.iconst 1, 1) by decide +kernel) rfl rfl rfl ?_
  refine e_ialdx (n := 514) (show decode (mC 247) 26 = .ok (.iaload, 1) by decide +kernel) (sh_ok hG (by decide +kernel)) (sh_ln hG (by decide +kernel)) (by decide) (by decide) (by decide) ex1 ?_
  refine e_ge2 (t := 57) (show decode (mC 247) 27 = .ok (.if_icmp .ge 30, 3) by decide +kernel) (by decide) s1 s2 (fun p1 => ?_) (fun p1 => ?_)
  · refine e_L (L' := [some (aR 188), some (aI v1), some (aI v2), some (aI v3)]) (st' := [aI v2]) (show decode (mC 247) 57 = .ok (.iload_n 2, 1) by decide +kernel) rfl rfl ?_
    exact e_iret (show decode (mC 247) 58 = .ok (.ireturn, 1) by decide +kernel) rfl (z3 p1)
  · refine e_L (L' := [some (aR 188), some (aI v1), some (aI v2), some (aI v3)]) (st' := [aI v2]) (show decode (mC 247) 30 = .ok (.iload_n 2, 1) by decide +kernel) rfl rfl ?_
    refine e_lt1 (t := 49) (show decode (mC 247) 31 = .ok (.ifCond .lt 18, 3) by decide +kernel) (by decide) (s4 p1) (fun p2 => ?_) (fun p2 => ?_)
    · refine e_L (L' := [some (aR 188), some (aI v1), some (aI v2), some (aI v3)]) (st' := [aI v3]) (show decode (mC 247) 49 = .ok (.iload_n 3, 1) by decide +kernel) rfl rfl ?_
      refine e_L (L' := [some (aR 188), some (aI v1), some (aI v3), some (aI v3)]) (st' := []) (show decode (mC 247) 50 = .ok (.istore_n 2, 1) by decide +kernel) rfl rfl ?_
      refine e_L (L' := [some (aR 188), some (aI v1), some (aI v3), some (aI (v3 + 1))]) (st' := []) (show decode (mC 247) 51 = .ok (.iinc 3 1, 3) by decide +kernel) rfl rfl ?_
      refine e_go (t := 20) (show decode (mC 247) 54 = .ok (.goto (-34), 3) by decide +kernel) (by decide) ?_
      exact (k5 p1 p2)
    · refine e_L (L' := [some (aR 188), some (aI v1), some (aI v2), some (aI v3)]) (st' := [aR 188]) (show decode (mC 247) 34 = .ok (.aload_n 0, 1) by decide +kernel) rfl (by show (if 188 = 0 then none else some (_, _)) = _; rw [if_neg (by decide)]) ?_
      refine e_L (L' := [some (aR 188), some (aI v1), some (aI v2), some (aI v3)]) (st' := [aI v3, aR 188]) (show decode (mC 247) 35 = .ok (.iload_n 3, 1) by decide +kernel) rfl rfl ?_
      refine e_L (L' := [some (aR 188), some (aI v1), some (aI v2), some (aI v3)]) (st' := [aI v1, aI v3, aR 188]) (show decode (mC 247) 36 = .ok (.iload_n 1, 1) by decide +kernel) rfl rfl ?_
      exact e_V (as := [aR 188, aI v3, aI v1]) (rest := []) (show decode (mC 247) 37 = .ok (.invokevirtual 363, 3) by decide +kernel) (by decide +kernel) (show (decide ((3 : Nat) = mA 246) && decide (246 < q_law)) = true by decide +kernel) rfl (show (0 : Nat) ≤ 8 by decide) (show (3 : Nat) ≤ mL 246 by decide +kernel) rfl (sh_ok hG (by decide +kernel)) (m6 p1 p2)
/-- SoulOfficeModel.greatest(I)I, from 40 -/
theorem b247_40 (hG : Shp G) {v1 v2 v3 u0 : Int}
    (m0 : TM d 246 [aR 188, aI v2, aI v1] (G, c) (fun r h' => T (d + 1) 247 46 [some (aR 188), some (aI v1), some (aI v2), some (aI v3)] (r.toList ++ [aI u0]) h' Q)) :
    T (d + 1) 247 40 [some (aR 188), some (aI v1), some (aI v2), some (aI v3)] [aI u0] (G, c) Q := by
  refine e_L (L' := [some (aR 188), some (aI v1), some (aI v2), some (aI v3)]) (st' := [aR 188, aI u0]) (show decode (mC 247) 40 = .ok (.aload_n 0, 1) by decide +kernel) rfl (by show (if 188 = 0 then none else some (_, _)) = _; rw [if_neg (by decide)]) ?_
  refine e_L (L' := [some (aR 188), some (aI v1), some (aI v2), some (aI v3)]) (st' := [aI v2, aR 188, aI u0]) (show decode (mC 247) 41 = .ok (.iload_n 2, 1) by decide +kernel) rfl rfl ?_
  refine e_L (L' := [some (aR 188), some (aI v1), some (aI v2), some (aI v3)]) (st' := [aI v1, aI v2, aR 188, aI u0]) (show decode (mC 247) 42 = .ok (.iload_n 1, 1) by decide +kernel) rfl rfl ?_
  exact e_V (as := [aR 188, aI v2, aI v1]) (rest := [aI u0]) (show decode (mC 247) 43 = .ok (.invokevirtual 363, 3) by decide +kernel) (by decide +kernel) (show (decide ((3 : Nat) = mA 246) && decide (246 < q_law)) = true by decide +kernel) rfl (show (1 : Nat) ≤ 8 by decide) (show (3 : Nat) ≤ mL 246 by decide +kernel) rfl (sh_ok hG (by decide +kernel)) m0
/-- SoulOfficeModel.greatest(I)I, from 46 -/
theorem b247_46 (hG : Shp G) {v1 v2 v3 u0 u1 : Int}
    (s0 : -2147483648 ≤ u0 ∧ u0 < 2147483648)
    (s1 : -2147483648 ≤ u1 ∧ u1 < 2147483648)
    (k2 : (u0 ≤ u1) → T (d + 1) 247 20 [some (aR 188), some (aI v1), some (aI v2), some (aI (v3 + 1))] [] (G, c) Q)
    (k3 : (u1 < u0) → T (d + 1) 247 20 [some (aR 188), some (aI v1), some (aI v3), some (aI (v3 + 1))] [] (G, c) Q) :
    T (d + 1) 247 46 [some (aR 188), some (aI v1), some (aI v2), some (aI v3)] [aI u1, aI u0] (G, c) Q := by
  refine e_le2 (t := 51) (show decode (mC 247) 46 = .ok (.if_icmp .le 5, 3) by decide +kernel) (by decide) s0 s1 (fun p1 => ?_) (fun p1 => ?_)
  · refine e_L (L' := [some (aR 188), some (aI v1), some (aI v2), some (aI (v3 + 1))]) (st' := []) (show decode (mC 247) 51 = .ok (.iinc 3 1, 3) by decide +kernel) rfl rfl ?_
    refine e_go (t := 20) (show decode (mC 247) 54 = .ok (.goto (-34), 3) by decide +kernel) (by decide) ?_
    exact (k2 p1)
  · refine e_L (L' := [some (aR 188), some (aI v1), some (aI v2), some (aI v3)]) (st' := [aI v3]) (show decode (mC 247) 49 = .ok (.iload_n 3, 1) by decide +kernel) rfl rfl ?_
    refine e_L (L' := [some (aR 188), some (aI v1), some (aI v3), some (aI v3)]) (st' := []) (show decode (mC 247) 50 = .ok (.istore_n 2, 1) by decide +kernel) rfl rfl ?_
    refine e_L (L' := [some (aR 188), some (aI v1), some (aI v3), some (aI (v3 + 1))]) (st' := []) (show decode (mC 247) 51 = .ok (.iinc 3 1, 3) by decide +kernel) rfl rfl ?_
    refine e_go (t := 20) (show decode (mC 247) 54 = .ok (.goto (-34), 3) by decide +kernel) (by decide) ?_
    exact (k3 p1)
/-- SoulOfficeModel.bookLine()Z, from 0 -/
theorem b248_0 (hG : Shp G) {x1 : Int}
    (ex1 : c 188 36 = x1)
    (m1 : TM d 174 [aR 188, aL 6578553] (G, c) (fun r h' => T (d + 1) 248 14 [some (aR 188), some (aI (3 * x1))] (r.toList ++ []) h' Q)) :
    T (d + 1) 248 0 [some (aR 188), none] [] (G, c) Q := by
  refine e_P (st' := [aI 3]) (show decode (mC 248) 0 = .ok (.iconst 3, 1) by decide +kernel) rfl rfl rfl ?_
  refine e_L (L' := [some (aR 188), none]) (st' := [aR 188, aI 3]) (show decode (mC 248) 1 = .ok (.aload_n 0, 1) by decide +kernel) rfl (by show (if 188 = 0 then none else some (_, _)) = _; rw [if_neg (by decide)]) ?_
  refine e_getIx (show decode (mC 248) 2 = .ok (.getfield 366, 3) by decide +kernel) (show pl 12 366 = some (0, 12, 36, 0) by decide +kernel) (by decide) (sh_ok hG (by decide +kernel)) ex1 ?_
  refine e_P (st' := [aI (3 * x1)]) (show decode (mC 248) 5 = .ok (.imul, 1) by decide +kernel) rfl rfl rfl ?_
  refine e_L (L' := [some (aR 188), some (aI (3 * x1))]) (st' := []) (show decode (mC 248) 6 = .ok (.istore_n 1, 1) by decide +kernel) rfl rfl ?_
  refine e_L (L' := [some (aR 188), some (aI (3 * x1))]) (st' := [aR 188]) (show decode (mC 248) 7 = .ok (.aload_n 0, 1) by decide +kernel) rfl (by show (if 188 = 0 then none else some (_, _)) = _; rw [if_neg (by decide)]) ?_
  refine e_ldc2 (show decode (mC 248) 8 = .ok (.ldc2_w 118, 3) by decide +kernel) (show pl 12 118 = some (9, 0, 0, 6578553) by decide +kernel) ?_
  exact e_V (as := [aR 188, aL 6578553]) (rest := []) (show decode (mC 248) 11 = .ok (.invokevirtual 203, 3) by decide +kernel) (by decide +kernel) (show (decide ((2 : Nat) = mA 174) && decide (174 < q_law)) = true by decide +kernel) rfl (show (0 : Nat) ≤ 8 by decide) (show (3 : Nat) ≤ mL 174 by decide +kernel) rfl (sh_ok hG (by decide +kernel)) m1
/-- SoulOfficeModel.bookLine()Z, from 14 -/
theorem b248_14 (hG : Shp G) {v1 u0 x1 : Int} (hQ : ∀ o o' h', q_eqo o o' → Q o h' → Q o' h')
    (s0 : -2147483648 ≤ u0 ∧ u0 < 2147483648)
    (ex1 : c 188 36 = x1)
    (s2 : (¬ u0 = 0) → -2147483648 ≤ x1 ∧ x1 < 2147483648)
    (m3 : (¬ u0 = 0) → (¬ x1 = 30) → TM d 174 [aR 188, aL 6578553] (G, c) (fun r h' => T (d + 1) 248 54 [some (aR 188), some (aI v1)] (r.toList ++ [aI v1, aR 192]) h' Q))
    (m4 : (¬ u0 = 0) → (x1 = 30) → TM d 173 [aR 188, aI 4] (G, c) (fun r h' => T (d + 1) 248 41 [none, none] (r.toList ++ []) h' Q))
    (m5 : (u0 = 0) → TM d 174 [aR 188, aL 427020350059] (G, c) (fun r h' => T (d + 1) 248 24 [some (aR 188), some (aI v1)] (r.toList ++ []) h' Q)) :
    T (d + 1) 248 14 [some (aR 188), some (aI v1)] [aI u0] (G, c) Q := by
  refine e_ne1 (t := 27) (show decode (mC 248) 14 = .ok (.ifCond .ne 13, 3) by decide +kernel) (by decide) s0 (fun p1 => ?_) (fun p1 => ?_)
  · refine e_L (L' := [some (aR 188), some (aI v1)]) (st' := [aR 188]) (show decode (mC 248) 27 = .ok (.aload_n 0, 1) by decide +kernel) rfl (by show (if 188 = 0 then none else some (_, _)) = _; rw [if_neg (by decide)]) ?_
    refine e_getIx (show decode (mC 248) 28 = .ok (.getfield 366, 3) by decide +kernel) (show pl 12 366 = some (0, 12, 36, 0) by decide +kernel) (by decide) (sh_ok hG (by decide +kernel)) ex1 ?_
    refine e_P (st' := [aI 30, aI x1]) (show decode (mC 248) 31 = .ok (.bipush 30, 2) by decide +kernel) rfl rfl rfl ?_
    refine e_ne2 (t := 42) (show decode (mC 248) 33 = .ok (.if_icmp .ne 9, 3) by decide +kernel) (by decide) (s2 p1) (by decide) (fun p2 => ?_) (fun p2 => ?_)
    · refine e_L (L' := [some (aR 188), some (aI v1)]) (st' := [aR 188]) (show decode (mC 248) 42 = .ok (.aload_n 0, 1) by decide +kernel) rfl (by show (if 188 = 0 then none else some (_, _)) = _; rw [if_neg (by decide)]) ?_
      refine e_getR (w := 192) (show decode (mC 248) 43 = .ok (.getfield 40, 3) by decide +kernel) (show pl 12 40 = some (0, 12, 8, 0) by decide +kernel) (by decide) (sh_ok hG (by decide +kernel)) (sh_rf hG (by decide +kernel)) ?_
      refine e_L (L' := [some (aR 188), some (aI v1)]) (st' := [aI v1, aR 192]) (show decode (mC 248) 46 = .ok (.iload_n 1, 1) by decide +kernel) rfl rfl ?_
      refine e_L (L' := [some (aR 188), some (aI v1)]) (st' := [aR 188, aI v1, aR 192]) (show decode (mC 248) 47 = .ok (.aload_n 0, 1) by decide +kernel) rfl (by show (if 188 = 0 then none else some (_, _)) = _; rw [if_neg (by decide)]) ?_
      refine e_ldc2 (show decode (mC 248) 48 = .ok (.ldc2_w 118, 3) by decide +kernel) (show pl 12 118 = some (9, 0, 0, 6578553) by decide +kernel) ?_
      exact e_V (as := [aR 188, aL 6578553]) (rest := [aI v1, aR 192]) (show decode (mC 248) 51 = .ok (.invokevirtual 203, 3) by decide +kernel) (by decide +kernel) (show (decide ((2 : Nat) = mA 174) && decide (174 < q_law)) = true by decide +kernel) rfl (show (2 : Nat) ≤ 8 by decide) (show (3 : Nat) ≤ mL 174 by decide +kernel) rfl (sh_ok hG (by decide +kernel)) (m3 p1 p2)
    · refine e_L (L' := [some (aR 188), some (aI v1)]) (st' := [aR 188]) (show decode (mC 248) 36 = .ok (.aload_n 0, 1) by decide +kernel) rfl (by show (if 188 = 0 then none else some (_, _)) = _; rw [if_neg (by decide)]) ?_
      refine e_P (st' := [aI 4, aR 188]) (show decode (mC 248) 37 = .ok (.iconst 4, 1) by decide +kernel) rfl rfl rfl ?_
      exact e_V (as := [aR 188, aI 4]) (rest := []) (show decode (mC 248) 38 = .ok (.invokevirtual 178, 3) by decide +kernel) (by decide +kernel) (show (decide ((2 : Nat) = mA 173) && decide (173 < q_law)) = true by decide +kernel) rfl (show (0 : Nat) ≤ 8 by decide) (show (2 : Nat) ≤ mL 173 by decide +kernel) rfl (sh_ok hG (by decide +kernel)) (tm_le hQ (leN (leN leE)) (m4 p1 p2))
  · refine e_L (L' := [some (aR 188), some (aI v1)]) (st' := [aR 188]) (show decode (mC 248) 17 = .ok (.aload_n 0, 1) by decide +kernel) rfl (by show (if 188 = 0 then none else some (_, _)) = _; rw [if_neg (by decide)]) ?_
    refine e_ldc2 (show decode (mC 248) 18 = .ok (.ldc2_w 120, 3) by decide +kernel) (show pl 12 120 = some (9, 0, 0, 427020350059) by decide +kernel) ?_
    exact e_V (as := [aR 188, aL 427020350059]) (rest := []) (show decode (mC 248) 21 = .ok (.invokevirtual 203, 3) by decide +kernel) (by decide +kernel) (show (decide ((2 : Nat) = mA 174) && decide (174 < q_law)) = true by decide +kernel) rfl (show (0 : Nat) ≤ 8 by decide) (show (3 : Nat) ≤ mL 174 by decide +kernel) rfl (sh_ok hG (by decide +kernel)) (m5 p1)
/-- SoulOfficeModel.bookLine()Z, from 24 -/
theorem b248_24 (hG : Shp G) {v1 u0 x1 x2 : Int} (hQ : ∀ o o' h', q_eqo o o' → Q o h' → Q o' h')
    (s0 : -2147483648 ≤ u0 ∧ u0 < 2147483648)
    (ex1 : c 190 1 = x1)
    (m2 : (u0 = 0) → TM d 181 [aR 188, aI 6, aI x1] (G, c) (fun r h' => T (d + 1) 248 105 [some (aR 188), some (aI v1)] (r.toList ++ []) h' Q))
    (ex2 : c 188 36 = x2)
    (s4 : (¬ u0 = 0) → -2147483648 ≤ x2 ∧ x2 < 2147483648)
    (m5 : (¬ u0 = 0) → (¬ x2 = 30) → TM d 174 [aR 188, aL 6578553] (G, c) (fun r h' => T (d + 1) 248 54 [some (aR 188), some (aI v1)] (r.toList ++ [aI v1, aR 192]) h' Q))
    (m6 : (¬ u0 = 0) → (x2 = 30) → TM d 173 [aR 188, aI 4] (G, c) (fun r h' => T (d + 1) 248 41 [none, none] (r.toList ++ []) h' Q)) :
    T (d + 1) 248 24 [some (aR 188), some (aI v1)] [aI u0] (G, c) Q := by
  refine e_eq1 (t := 93) (show decode (mC 248) 24 = .ok (.ifCond .eq 69, 3) by decide +kernel) (by decide) s0 (fun p1 => ?_) (fun p1 => ?_)
  · refine e_L (L' := [some (aR 188), some (aI v1)]) (st' := [aR 188]) (show decode (mC 248) 93 = .ok (.aload_n 0, 1) by decide +kernel) rfl (by show (if 188 = 0 then none else some (_, _)) = _; rw [if_neg (by decide)]) ?_
    refine e_P (st' := [aI 6, aR 188]) (show decode (mC 248) 94 = .ok (.bipush 6, 2) by decide +kernel) rfl rfl rfl ?_
    refine e_L (L' := [some (aR 188), some (aI v1)]) (st' := [aR 188, aI 6, aR 188]) (show decode (mC 248) 96 = .ok (.aload_n 0, 1) by decide +kernel) rfl (by show (if 188 = 0 then none else some (_, _)) = _; rw [if_neg (by decide)]) ?_
    refine e_getR (w := 190) (show decode (mC 248) 97 = .ok (.getfield 33, 3) by decide +kernel) (show pl 12 33 = some (0, 12, 6, 0) by decide +kernel) (by decide) (sh_ok hG (by decide +kernel)) (sh_rf hG (by decide +kernel)) ?_
    refine e_P (st' := [aI 1, aR 190, aI 6, aR 188]) (show decode (mC 248) 100 = .ok (.iconst 1, 1) by decide +kernel) rfl rfl rfl ?_
    refine e_ialdx (n := 514) (show decode (mC 248) 101 = .ok (.iaload, 1) by decide +kernel) (sh_ok hG (by decide +kernel)) (sh_ln hG (by decide +kernel)) (by decide) (by decide) (by decide) ex1 ?_
    exact e_V (as := [aR 188, aI 6, aI x1]) (rest := []) (show decode (mC 248) 102 = .ok (.invokevirtual 199, 3) by decide +kernel) (by decide +kernel) (show (decide ((3 : Nat) = mA 181) && decide (181 < q_law)) = true by decide +kernel) rfl (show (0 : Nat) ≤ 8 by decide) (show (3 : Nat) ≤ mL 181 by decide +kernel) rfl (sh_ok hG (by decide +kernel)) (m2 p1)
  · refine e_L (L' := [some (aR 188), some (aI v1)]) (st' := [aR 188]) (show decode (mC 248) 27 = .ok (.aload_n 0, 1) by decide +kernel) rfl (by show (if 188 = 0 then none else some (_, _)) = _; rw [if_neg (by decide)]) ?_
    refine e_getIx (show decode (mC 248) 28 = .ok (.getfield 366, 3) by decide +kernel) (show pl 12 366 = some (0, 12, 36, 0) by decide +kernel) (by decide) (sh_ok hG (by decide +kernel)) ex2 ?_
    refine e_P (st' := [aI 30, aI x2]) (show decode (mC 248) 31 = .ok (.bipush 30, 2) by decide +kernel) rfl rfl rfl ?_
    refine e_ne2 (t := 42) (show decode (mC 248) 33 = .ok (.if_icmp .ne 9, 3) by decide +kernel) (by decide) (s4 p1) (by decide) (fun p2 => ?_) (fun p2 => ?_)
    · refine e_L (L' := [some (aR 188), some (aI v1)]) (st' := [aR 188]) (show decode (mC 248) 42 = .ok (.aload_n 0, 1) by decide +kernel) rfl (by show (if 188 = 0 then none else some (_, _)) = _; rw [if_neg (by decide)]) ?_
      refine e_getR (w := 192) (show decode (mC 248) 43 = .ok (.getfield 40, 3) by decide +kernel) (show pl 12 40 = some (0, 12, 8, 0) by decide +kernel) (by decide) (sh_ok hG (by decide +kernel)) (sh_rf hG (by decide +kernel)) ?_
      refine e_L (L' := [some (aR 188), some (aI v1)]) (st' := [aI v1, aR 192]) (show decode (mC 248) 46 = .ok (.iload_n 1, 1) by decide +kernel) rfl rfl ?_
      refine e_L (L' := [some (aR 188), some (aI v1)]) (st' := [aR 188, aI v1, aR 192]) (show decode (mC 248) 47 = .ok (.aload_n 0, 1) by decide +kernel) rfl (by show (if 188 = 0 then none else some (_, _)) = _; rw [if_neg (by decide)]) ?_
      refine e_ldc2 (show decode (mC 248) 48 = .ok (.ldc2_w 118, 3) by decide +kernel) (show pl 12 118 = some (9, 0, 0, 6578553) by decide +kernel) ?_
      exact e_V (as := [aR 188, aL 6578553]) (rest := [aI v1, aR 192]) (show decode (mC 248) 51 = .ok (.invokevirtual 203, 3) by decide +kernel) (by decide +kernel) (show (decide ((2 : Nat) = mA 174) && decide (174 < q_law)) = true by decide +kernel) rfl (show (2 : Nat) ≤ 8 by decide) (show (3 : Nat) ≤ mL 174 by decide +kernel) rfl (sh_ok hG (by decide +kernel)) (m5 p1 p2)
    · refine e_L (L' := [some (aR 188), some (aI v1)]) (st' := [aR 188]) (show decode (mC 248) 36 = .ok (.aload_n 0, 1) by decide +kernel) rfl (by show (if 188 = 0 then none else some (_, _)) = _; rw [if_neg (by decide)]) ?_
      refine e_P (st' := [aI 4, aR 188]) (show decode (mC 248) 37 = .ok (.iconst 4, 1) by decide +kernel) rfl rfl rfl ?_
      exact e_V (as := [aR 188, aI 4]) (rest := []) (show decode (mC 248) 38 = .ok (.invokevirtual 178, 3) by decide +kernel) (by decide +kernel) (show (decide ((2 : Nat) = mA 173) && decide (173 < q_law)) = true by decide +kernel) rfl (show (0 : Nat) ≤ 8 by decide) (show (2 : Nat) ≤ mL 173 by decide +kernel) rfl (sh_ok hG (by decide +kernel)) (tm_le hQ (leN (leN leE)) (m6 p1 p2))
/-- SoulOfficeModel.bookLine()Z, from 41 -/
theorem b248_41 (hG : Shp G) {u0 : Int}
    (s0 : u0 = 0 ∨ u0 = 1)
    (z1 : Q (.inl (some (aI u0))) (G, c)) :
    T (d + 1) 248 41 [none, none] [aI u0] (G, c) Q := by
  exact e_zret (show decode (mC 248) 41 = .ok (.ireturn, 1) by decide +kernel) rfl s0 z1
/-- SoulOfficeModel.bookLine()Z, from 54 -/
theorem b248_54 (hG : Shp G) {v1 u1 u2 : Int}
    (s0 : -2147483648 ≤ u2 ∧ u2 < 2147483648)
    (s1 : (u2 = 0) → 0 ≤ u1)
    (s2 : (u2 = 0) → u1 < 135)
    (m3 : (u2 = 0) → TM d 172 [aR 188] (G, (q_up c 192 u1 2)) (fun r h' => T (d + 1) 248 67 [some (aR 188), some (aI v1)] (r.toList ++ []) h' Q))
    (s4 : (¬ u2 = 0) → 0 ≤ u1)
    (s5 : (¬ u2 = 0) → u1 < 135)
    (m6 : (¬ u2 = 0) → TM d 172 [aR 188] (G, (q_up c 192 u1 1)) (fun r h' => T (d + 1) 248 67 [some (aR 188), some (aI v1)] (r.toList ++ []) h' Q)) :
    T (d + 1) 248 54 [some (aR 188), some (aI v1)] [aI u2, aI u1, aR 192] (G, c) Q := by
  refine e_eq1 (t := 61) (show decode (mC 248) 54 = .ok (.ifCond .eq 7, 3) by decide +kernel) (by decide) s0 (fun p1 => ?_) (fun p1 => ?_)
  · refine e_P (st' := [aI 2, aI u1, aR 192]) (show decode (mC 248) 61 = .ok (.iconst 2, 1) by decide +kernel) rfl rfl rfl ?_
    refine e_iast (n := 135) (show decode (mC 248) 62 = .ok (.iastore, 1) by decide +kernel) (sh_ok hG (by decide +kernel)) (sh_ln hG (by decide +kernel)) (by decide) (s1 p1) (s2 p1) ?_
    refine e_L (L' := [some (aR 188), some (aI v1)]) (st' := [aR 188]) (show decode (mC 248) 63 = .ok (.aload_n 0, 1) by decide +kernel) rfl (by show (if 188 = 0 then none else some (_, _)) = _; rw [if_neg (by decide)]) ?_
    exact e_V (as := [aR 188]) (rest := []) (show decode (mC 248) 64 = .ok (.invokevirtual 181, 3) by decide +kernel) (by decide +kernel) (show (decide ((1 : Nat) = mA 172) && decide (172 < q_law)) = true by decide +kernel) rfl (show (0 : Nat) ≤ 8 by decide) (show (1 : Nat) ≤ mL 172 by decide +kernel) rfl (sh_ok hG (by decide +kernel)) (m3 p1)
  · refine e_P (st' := [aI 1, aI u1, aR 192]) (show decode (mC 248) 57 = .ok (.iconst 1, 1) by decide +kernel) rfl rfl rfl ?_
    refine e_go (t := 62) (show decode (mC 248) 58 = .ok (.goto 4, 3) by decide +kernel) (by decide) ?_
    refine e_iast (n := 135) (show decode (mC 248) 62 = .ok (.iastore, 1) by decide +kernel) (sh_ok hG (by decide +kernel)) (sh_ln hG (by decide +kernel)) (by decide) (s4 p1) (s5 p1) ?_
    refine e_L (L' := [some (aR 188), some (aI v1)]) (st' := [aR 188]) (show decode (mC 248) 63 = .ok (.aload_n 0, 1) by decide +kernel) rfl (by show (if 188 = 0 then none else some (_, _)) = _; rw [if_neg (by decide)]) ?_
    exact e_V (as := [aR 188]) (rest := []) (show decode (mC 248) 64 = .ok (.invokevirtual 181, 3) by decide +kernel) (by decide +kernel) (show (decide ((1 : Nat) = mA 172) && decide (172 < q_law)) = true by decide +kernel) rfl (show (0 : Nat) ≤ 8 by decide) (show (1 : Nat) ≤ mL 172 by decide +kernel) rfl (sh_ok hG (by decide +kernel)) (m6 p1)
/-- SoulOfficeModel.bookLine()Z, from 67 -/
theorem b248_67 (hG : Shp G) {v1 : Int}
    (m0 : TM d 178 [aR 188, aI 1, aI 60] (G, c) (fun r h' => T (d + 1) 248 74 [some (aR 188), some (aI v1)] (r.toList ++ []) h' Q)) :
    T (d + 1) 248 67 [some (aR 188), some (aI v1)] [] (G, c) Q := by
  refine e_L (L' := [some (aR 188), some (aI v1)]) (st' := [aR 188]) (show decode (mC 248) 67 = .ok (.aload_n 0, 1) by decide +kernel) rfl (by show (if 188 = 0 then none else some (_, _)) = _; rw [if_neg (by decide)]) ?_
  refine e_P (st' := [aI 1, aR 188]) (show decode (mC 248) 68 = .ok (.iconst 1, 1) by decide +kernel) rfl rfl rfl ?_
  refine e_P (st' := [aI 60, aI 1, aR 188]) (show decode (mC 248) 69 = .ok (.bipush 60, 2) by decide +kernel) rfl rfl rfl ?_
  exact e_V (as := [aR 188, aI 1, aI 60]) (rest := []) (show decode (mC 248) 71 = .ok (.invokevirtual 210, 3) by decide +kernel) (by decide +kernel) (show (decide ((3 : Nat) = mA 178) && decide (178 < q_law)) = true by decide +kernel) rfl (show (0 : Nat) ≤ 8 by decide) (show (3 : Nat) ≤ mL 178 by decide +kernel) rfl (sh_ok hG (by decide +kernel)) m0
/-- SoulOfficeModel.bookLine()Z, from 74 -/
theorem b248_74 (hG : Shp G) {v1 u0 x1 : Int}
    (s0 : -2147483648 ≤ u0 ∧ u0 < 2147483648)
    (ex1 : c 188 18 = x1)
    (s2 : (¬ u0 = 0) → 0 ≤ (v1 + 1))
    (s3 : (¬ u0 = 0) → (v1 + 1) < 135)
    (z4 : (¬ u0 = 0) → Q (.inl (some (aI 1))) (G, (q_up c 192 (v1 + 1) x1)))
    (z5 : (u0 = 0) → Q (.inl (some (aI 0))) (G, c)) :
    T (d + 1) 248 74 [some (aR 188), some (aI v1)] [aI u0] (G, c) Q := by
  refine e_ne1 (t := 79) (show decode (mC 248) 74 = .ok (.ifCond .ne 5, 3) by decide +kernel) (by decide) s0 (fun p1 => ?_) (fun p1 => ?_)
  · refine e_L (L' := [some (aR 188), some (aI v1)]) (st' := [aR 188]) (show decode (mC 248) 79 = .ok (.aload_n 0, 1) by decide +kernel) rfl (by show (if 188 = 0 then none else some (_, _)) = _; rw [if_neg (by decide)]) ?_
    refine e_getR (w := 192) (show decode (mC 248) 80 = .ok (.getfield 40, 3) by decide +kernel) (show pl 12 40 = some (0, 12, 8, 0) by decide +kernel) (by decide) (sh_ok hG (by decide +kernel)) (sh_rf hG (by decide +kernel)) ?_
    refine e_L (L' := [some (aR 188), some (aI v1)]) (st' := [aI v1, aR 192]) (show decode (mC 248) 83 = .ok (.iload_n 1, 1) by decide +kernel) rfl rfl ?_
    refine e_P (st' := [aI 1, aI v1, aR 192]) (show decode (mC 248) 84 = .ok (.iconst 1, 1) by decide +kernel) rfl rfl rfl ?_
    refine e_P (st' := [aI (v1 + 1), aR 192]) (show decode (mC 248) 85 = .ok (.iadd, 1) by decide +kernel) rfl rfl rfl ?_
    refine e_L (L' := [some (aR 188), some (aI v1)]) (st' := [aR 188, aI (v1 + 1), aR 192]) (show decode (mC 248) 86 = .ok (.aload_n 0, 1) by decide +kernel) rfl (by show (if 188 = 0 then none else some (_, _)) = _; rw [if_neg (by decide)]) ?_
    refine e_getIx (show decode (mC 248) 87 = .ok (.getfield 188, 3) by decide +kernel) (show pl 12 188 = some (0, 12, 18, 0) by decide +kernel) (by decide) (sh_ok hG (by decide +kernel)) ex1 ?_
    refine e_iast (n := 135) (show decode (mC 248) 90 = .ok (.iastore, 1) by decide +kernel) (sh_ok hG (by decide +kernel)) (sh_ln hG (by decide +kernel)) (by decide) (s2 p1) (s3 p1) ?_
    refine e_P (st' := [aI 1]) (show decode (mC 248) 91 = .ok (.iconst 1, 1) by decide +kernel) rfl rfl rfl ?_
    exact e_zret (show decode (mC 248) 92 = .ok (.ireturn, 1) by decide +kernel) rfl (by decide) (z4 p1)
  · refine e_P (st' := [aI 0]) (show decode (mC 248) 77 = .ok (.iconst 0, 1) by decide +kernel) rfl rfl rfl ?_
    exact e_zret (show decode (mC 248) 78 = .ok (.ireturn, 1) by decide +kernel) rfl (by decide) (z5 p1)
/-- SoulOfficeModel.bookLine()Z, from 105 -/
theorem b248_105 (hG : Shp G) {v1 u0 x1 x2 : Int} (hQ : ∀ o o' h', q_eqo o o' → Q o h' → Q o' h')
    (s0 : -2147483648 ≤ u0 ∧ u0 < 2147483648)
    (ex1 : c 188 36 = x1)
    (s2 : (¬ u0 = 0) → -2147483648 ≤ x1 ∧ x1 < 2147483648)
    (s3 : (¬ u0 = 0) → (¬ x1 = 30) → 0 ≤ v1)
    (s4 : (¬ u0 = 0) → (¬ x1 = 30) → v1 < 135)
    (ex2 : (q_up c 192 v1 0) 188 18 = x2)
    (s6 : (¬ u0 = 0) → (¬ x1 = 30) → 0 ≤ (v1 + 1))
    (s7 : (¬ u0 = 0) → (¬ x1 = 30) → (v1 + 1) < 135)
    (m8 : (¬ u0 = 0) → (¬ x1 = 30) → TM d 172 [aR 188] (G, (q_up (q_up c 192 v1 0) 192 (v1 + 1) x2)) (fun r h' => T (d + 1) 248 148 [some (aR 188), some (aI v1)] (r.toList ++ []) h' Q))
    (m9 : (¬ u0 = 0) → (x1 = 30) → TM d 173 [aR 188, aI 4] (G, c) (fun r h' => T (d + 1) 248 124 [none, none] (r.toList ++ []) h' Q))
    (z10 : (u0 = 0) → Q (.inl (some (aI 0))) (G, c)) :
    T (d + 1) 248 105 [some (aR 188), some (aI v1)] [aI u0] (G, c) Q := by
  refine e_ne1 (t := 110) (show decode (mC 248) 105 = .ok (.ifCond .ne 5, 3) by decide +kernel) (by decide) s0 (fun p1 => ?_) (fun p1 => ?_)
  · refine e_L (L' := [some (aR 188), some (aI v1)]) (st' := [aR 188]) (show decode (mC 248) 110 = .ok (.aload_n 0, 1) by decide +kernel) rfl (by show (if 188 = 0 then none else some (_, _)) = _; rw [if_neg (by decide)]) ?_
    refine e_getIx (show decode (mC 248) 111 = .ok (.getfield 366, 3) by decide +kernel) (show pl 12 366 = some (0, 12, 36, 0) by decide +kernel) (by decide) (sh_ok hG (by decide +kernel)) ex1 ?_
    refine e_P (st' := [aI 30, aI x1]) (show decode (mC 248) 114 = .ok (.bipush 30, 2) by decide +kernel) rfl rfl rfl ?_
    refine e_ne2 (t := 125) (show decode (mC 248) 116 = .ok (.if_icmp .ne 9, 3) by decide +kernel) (by decide) (s2 p1) (by decide) (fun p2 => ?_) (fun p2 => ?_)
    · refine e_L (L' := [some (aR 188), some (aI v1)]) (st' := [aR 188]) (show decode (mC 248) 125 = .ok (.aload_n 0, 1) by decide +kernel) rfl (by show (if 188 = 0 then none else some (_, _)) = _; rw [if_neg (by decide)]) ?_
      refine e_getR (w := 192) (show decode (mC 248) 126 = .ok (.getfield 40, 3) by decide +kernel) (show pl 12 40 = some (0, 12, 8, 0) by decide +kernel) (by decide) (sh_ok hG (by decide +kernel)) (sh_rf hG (by decide +kernel)) ?_
      refine e_L (L' := [some (aR 188), some (aI v1)]) (st' := [aI v1, aR 192]) (show decode (mC 248) 129 = .ok (.iload_n 1, 1) by decide +kernel) rfl rfl ?_
      refine e_P (st' := [aI 0, aI v1, aR 192]) (show decode (mC 248) 130 = .ok (.iconst 0, 1) by decide +kernel) rfl rfl rfl ?_
      refine e_iast (n := 135) (show decode (mC 248) 131 = .ok (.iastore, 1) by decide +kernel) (sh_ok hG (by decide +kernel)) (sh_ln hG (by decide +kernel)) (by decide) (s3 p1 p2) (s4 p1 p2) ?_
      refine e_L (L' := [some (aR 188), some (aI v1)]) (st' := [aR 188]) (show decode (mC 248) 132 = .ok (.aload_n 0, 1) by decide +kernel) rfl (by show (if 188 = 0 then none else some (_, _)) = _; rw [if_neg (by decide)]) ?_
      refine e_getR (w := 192) (show decode (mC 248) 133 = .ok (.getfield 40, 3) by decide +kernel) (show pl 12 40 = some (0, 12, 8, 0) by decide +kernel) (by decide) (sh_ok hG (by decide +kernel)) (sh_rf hG (by decide +kernel)) ?_
      refine e_L (L' := [some (aR 188), some (aI v1)]) (st' := [aI v1, aR 192]) (show decode (mC 248) 136 = .ok (.iload_n 1, 1) by decide +kernel) rfl rfl ?_
      refine e_P (st' := [aI 1, aI v1, aR 192]) (show decode (mC 248) 137 = .ok (.iconst 1, 1) by decide +kernel) rfl rfl rfl ?_
      refine e_P (st' := [aI (v1 + 1), aR 192]) (show decode (mC 248) 138 = .ok (.iadd, 1) by decide +kernel) rfl rfl rfl ?_
      refine e_L (L' := [some (aR 188), some (aI v1)]) (st' := [aR 188, aI (v1 + 1), aR 192]) (show decode (mC 248) 139 = .ok (.aload_n 0, 1) by decide +kernel) rfl (by show (if 188 = 0 then none else some (_, _)) = _; rw [if_neg (by decide)]) ?_
      refine e_getIx (show decode (mC 248) 140 = .ok (.getfield 188, 3) by decide +kernel) (show pl 12 188 = some (0, 12, 18, 0) by decide +kernel) (by decide) (sh_ok hG (by decide +kernel)) ex2 ?_
      refine e_iast (n := 135) (show decode (mC 248) 143 = .ok (.iastore, 1) by decide +kernel) (sh_ok hG (by decide +kernel)) (sh_ln hG (by decide +kernel)) (by decide) (s6 p1 p2) (s7 p1 p2) ?_
      refine e_L (L' := [some (aR 188), some (aI v1)]) (st' := [aR 188]) (show decode (mC 248) 144 = .ok (.aload_n 0, 1) by decide +kernel) rfl (by show (if 188 = 0 then none else some (_, _)) = _; rw [if_neg (by decide)]) ?_
      exact e_V (as := [aR 188]) (rest := []) (show decode (mC 248) 145 = .ok (.invokevirtual 181, 3) by decide +kernel) (by decide +kernel) (show (decide ((1 : Nat) = mA 172) && decide (172 < q_law)) = true by decide +kernel) rfl (show (0 : Nat) ≤ 8 by decide) (show (1 : Nat) ≤ mL 172 by decide +kernel) rfl (sh_ok hG (by decide +kernel)) (m8 p1 p2)
    · refine e_L (L' := [some (aR 188), some (aI v1)]) (st' := [aR 188]) (show decode (mC 248) 119 = .ok (.aload_n 0, 1) by decide +kernel) rfl (by show (if 188 = 0 then none else some (_, _)) = _; rw [if_neg (by decide)]) ?_
      refine e_P (st' := [aI 4, aR 188]) (show decode (mC 248) 120 = .ok (.iconst 4, 1) by decide +kernel) rfl rfl rfl ?_
      exact e_V (as := [aR 188, aI 4]) (rest := []) (show decode (mC 248) 121 = .ok (.invokevirtual 178, 3) by decide +kernel) (by decide +kernel) (show (decide ((2 : Nat) = mA 173) && decide (173 < q_law)) = true by decide +kernel) rfl (show (0 : Nat) ≤ 8 by decide) (show (2 : Nat) ≤ mL 173 by decide +kernel) rfl (sh_ok hG (by decide +kernel)) (tm_le hQ (leN (leN leE)) (m9 p1 p2))
  · refine e_P (st' := [aI 0]) (show decode (mC 248) 108 = .ok (.iconst 0, 1) by decide +kernel) rfl rfl rfl ?_
    exact e_zret (show decode (mC 248) 109 = .ok (.ireturn, 1) by decide +kernel) rfl (by decide) (z10 p1)
/-- SoulOfficeModel.bookLine()Z, from 124 -/
theorem b248_124 (hG : Shp G) {u0 : Int}
    (s0 : u0 = 0 ∨ u0 = 1)
    (z1 : Q (.inl (some (aI u0))) (G, c)) :
    T (d + 1) 248 124 [none, none] [aI u0] (G, c) Q := by
  exact e_zret (show decode (mC 248) 124 = .ok (.ireturn, 1) by decide +kernel) rfl s0 z1
/-- SoulOfficeModel.bookLine()Z, from 148 -/
theorem b248_148 (hG : Shp G) {v1 : Int}
    (m0 : TM d 174 [aR 188, aL 24947] (G, c) (fun r h' => T (d + 1) 248 155 [some (aR 188), some (aI v1)] (r.toList ++ []) h' Q)) :
    T (d + 1) 248 148 [some (aR 188), some (aI v1)] [] (G, c) Q := by
  refine e_L (L' := [some (aR 188), some (aI v1)]) (st' := [aR 188]) (show decode (mC 248) 148 = .ok (.aload_n 0, 1) by decide +kernel) rfl (by show (if 188 = 0 then none else some (_, _)) = _; rw [if_neg (by decide)]) ?_
  refine e_ldc2 (show decode (mC 248) 149 = .ok (.ldc2_w 116, 3) by decide +kernel) (show pl 12 116 = some (9, 0, 0, 24947) by decide +kernel) ?_
  exact e_V (as := [aR 188, aL 24947]) (rest := []) (show decode (mC 248) 152 = .ok (.invokevirtual 203, 3) by decide +kernel) (by decide +kernel) (show (decide ((2 : Nat) = mA 174) && decide (174 < q_law)) = true by decide +kernel) rfl (show (0 : Nat) ≤ 8 by decide) (show (3 : Nat) ≤ mL 174 by decide +kernel) rfl (sh_ok hG (by decide +kernel)) m0
/-- SoulOfficeModel.bookLine()Z, from 155 -/
theorem b248_155 (hG : Shp G) {v1 u0 : Int} (hQ : ∀ o o' h', q_eqo o o' → Q o h' → Q o' h')
    (s0 : -2147483648 ≤ u0 ∧ u0 < 2147483648)
    (m1 : (¬ u0 = 0) → TM d 172 [aR 188] (G, c) (fun r h' => T (d + 1) 248 168 [some (aR 188), some (aI v1)] (r.toList ++ []) h' Q))
    (m2 : (u0 = 0) → TM d 173 [aR 188, aI 1] (G, c) (fun r h' => T (d + 1) 248 163 [none, none] (r.toList ++ []) h' Q)) :
    T (d + 1) 248 155 [some (aR 188), some (aI v1)] [aI u0] (G, c) Q := by
  refine e_ne1 (t := 164) (show decode (mC 248) 155 = .ok (.ifCond .ne 9, 3) by decide +kernel) (by decide) s0 (fun p1 => ?_) (fun p1 => ?_)
  · refine e_L (L' := [some (aR 188), some (aI v1)]) (st' := [aR 188]) (show decode (mC 248) 164 = .ok (.aload_n 0, 1) by decide +kernel) rfl (by show (if 188 = 0 then none else some (_, _)) = _; rw [if_neg (by decide)]) ?_
    exact e_V (as := [aR 188]) (rest := []) (show decode (mC 248) 165 = .ok (.invokevirtual 181, 3) by decide +kernel) (by decide +kernel) (show (decide ((1 : Nat) = mA 172) && decide (172 < q_law)) = true by decide +kernel) rfl (show (0 : Nat) ≤ 8 by decide) (show (1 : Nat) ≤ mL 172 by decide +kernel) rfl (sh_ok hG (by decide +kernel)) (m1 p1)
  · refine e_L (L' := [some (aR 188), some (aI v1)]) (st' := [aR 188]) (show decode (mC 248) 158 = .ok (.aload_n 0, 1) by decide +kernel) rfl (by show (if 188 = 0 then none else some (_, _)) = _; rw [if_neg (by decide)]) ?_
    refine e_P (st' := [aI 1, aR 188]) (show decode (mC 248) 159 = .ok (.iconst 1, 1) by decide +kernel) rfl rfl rfl ?_
    exact e_V (as := [aR 188, aI 1]) (rest := []) (show decode (mC 248) 160 = .ok (.invokevirtual 178, 3) by decide +kernel) (by decide +kernel) (show (decide ((2 : Nat) = mA 173) && decide (173 < q_law)) = true by decide +kernel) rfl (show (0 : Nat) ≤ 8 by decide) (show (2 : Nat) ≤ mL 173 by decide +kernel) rfl (sh_ok hG (by decide +kernel)) (tm_le hQ (leN (leN leE)) (m2 p1))
/-- SoulOfficeModel.bookLine()Z, from 163 -/
theorem b248_163 (hG : Shp G) {u0 : Int}
    (s0 : u0 = 0 ∨ u0 = 1)
    (z1 : Q (.inl (some (aI u0))) (G, c)) :
    T (d + 1) 248 163 [none, none] [aI u0] (G, c) Q := by
  exact e_zret (show decode (mC 248) 163 = .ok (.ireturn, 1) by decide +kernel) rfl s0 z1
end QB31
