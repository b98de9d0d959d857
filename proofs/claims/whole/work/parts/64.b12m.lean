section QB34
variable {d : Nat} {G : GG} {c : CC} {Q : OO → HH → Prop}
/-- SoulOfficeModel.sentence()I, from 146 -/
theorem b258_146 (hG : Shp G) {v2 x1 x2 x3 : Int}
    (ex1 : c 188 40 = x1)
    (s1 : -2147483648 ≤ v2 ∧ v2 < 2147483648)
    (s2 : -2147483648 ≤ (3 * x1) ∧ (3 * x1) < 2147483648)
    (ex2 : c 188 41 = x2)
    (z4 : ((3 * x1) ≤ v2) → Q (.inl (some (aI x2))) (G, c))
    (s5 : (v2 < (3 * x1)) → 0 ≤ v2)
    (s6 : (v2 < (3 * x1)) → v2 < 135)
    (ex3 : c 192 v2 = x3)
    (s8 : (v2 < (3 * x1)) → 0 ≤ (334 + v2))
    (s9 : (v2 < (3 * x1)) → (334 + v2) < 514)
    (k10 : (v2 < (3 * x1)) → T (d + 1) 258 146 [some (aR 188), none, some (aI (v2 + 1))] [] (G, (q_up c 190 (334 + v2) x3)) Q) :
    T (d + 1) 258 146 [some (aR 188), none, some (aI v2)] [] (G, c) Q := by
  refine e_L (L' := [some (aR 188), none, some (aI v2)]) (st' := [aI v2]) (show decode (mC 258) 146 = .ok (.iload_n 2, 1) by decide +kernel) rfl rfl ?_
  refine e_P (st' := [aI 3, aI v2]) (show decode (mC 258) 147 = .ok (.iconst 3, 1) by decide +kernel) rfl rfl rfl ?_
  refine e_L (L' := [some (aR 188), none, some (aI v2)]) (st' := [aR 188, aI 3, aI v2]) (show decode (mC 258) 148 = .ok (.aload_n 0, 1) by decide +kernel) rfl (by show (if 188 = 0 then none else some (_, _)) = _; rw [if_neg (by decide)]) ?_
  refine e_getIx (show decode (mC 258) 149 = .ok (.getfield 378, 3) by decide +kernel) (show pl 12 378 = some (0, 12, 40, 0) by decide +kernel) (by decide) (sh_ok hG (by decide +kernel)) ex1 ?_
  refine e_P (st' := [aI (3 * x1), aI v2]) (show decode (mC 258) 152 = .ok (.imul, 1) by decide +kernel) rfl rfl rfl ?_
  refine e_ge2 (t := 178) (show decode (mC 258) 153 = .ok (.if_icmp .ge 25, 3) by decide +kernel) (by decide) s1 s2 (fun p1 => ?_) (fun p1 => ?_)
  · refine e_L (L' := [some (aR 188), none, some (aI v2)]) (st' := [aR 188]) (show decode (mC 258) 178 = .ok (.aload_n 0, 1) by decide +kernel) rfl (by show (if 188 = 0 then none else some (_, _)) = _; rw [if_neg (by decide)]) ?_
    refine e_getIx (show decode (mC 258) 179 = .ok (.getfield 394, 3) by decide +kernel) (show pl 12 394 = some (0, 12, 41, 0) by decide +kernel) (by decide) (sh_ok hG (by decide +kernel)) ex2 ?_
    exact e_iret (show decode (mC 258) 182 = .ok (.ireturn, 1) by decide +kernel) rfl (z4 p1)
  · refine e_L (L' := [some (aR 188), none, some (aI v2)]) (st' := [aR 188]) (show decode (mC 258) 156 = .ok (.aload_n 0, 1) by decide +kernel) rfl (by show (if 188 = 0 then none else some (_, _)) = _; rw [if_neg (by decide)]) ?_
    refine e_getR (w := 190) (show decode (mC 258) 157 = .ok (.getfield 33, 3) by decide +kernel) (show pl 12 33 = some (0, 12, 6, 0) by decide +kernel) (by decide) (sh_ok hG (by decide +kernel)) (sh_rf hG (by decide +kernel)) ?_
    refine e_P (st' := [aI 334, aR 190]) (show decode (mC 258) 160 = .ok (.sipush 334, 3) by decide +kernel) rfl rfl rfl ?_
    refine e_L (L' := [some (aR 188), none, some (aI v2)]) (st' := [aI v2, aI 334, aR 190]) (show decode (mC 258) 163 = .ok (.iload_n 2, 1) by decide +kernel) rfl rfl ?_
    refine e_P (st' := [aI (334 + v2), aR 190]) (show decode (mC 258) 164 = .ok (.iadd, 1) by decide +kernel) rfl rfl rfl ?_
    refine e_L (L' := [some (aR 188), none, some (aI v2)]) (st' := [aR 188, aI (334 + v2), aR 190]) (show decode (mC 258) 165 = .ok (.aload_n 0, 1) by decide +kernel) rfl (by show (if 188 = 0 then none else some (_, _)) = _; rw [if_neg (by decide)]) ?_
    refine e_getR (w := 192) (show decode (mC 258) 166 = .ok (.getfield 40, 3) by decide +kernel) (show pl 12 40 = some (0, 12, 8, 0) by decide +kernel) (by decide) (sh_ok hG (by decide +kernel)) (sh_rf hG (by decide +kernel)) ?_
    refine e_L (L' := [some (aR 188), none, some (aI v2)]) (st' := [aI v2, aR 192, aI (334 + v2), aR 190]) (show decode (mC 258) 169 = .ok (.iload_n 2, 1) by decide +kernel) rfl rfl ?_
    refine e_ialdx (n := 135) (show decode (mC 258) 170 = .ok (.iaload, 1) by decide +kernel) (sh_ok hG (by decide +kernel)) (sh_ln hG (by decide +kernel)) (by decide) (s5 p1) (s6 p1) ex3 ?_
    refine e_iast (n := 514) (show decode (mC 258) 171 = .ok (.iastore, 1) by decide +kernel) (sh_ok hG (by decide +kernel)) (sh_ln hG (by decide +kernel)) (by decide) (s8 p1) (s9 p1) ?_
    refine e_L (L' := [some (aR 188), none, some (aI (v2 + 1))]) (st' := []) (show decode (mC 258) 172 = .ok (.iinc 2 1, 3) by decide +kernel) rfl rfl ?_
    refine e_go (t := 146) (show decode (mC 258) 175 = .ok (.goto (-29), 3) by decide +kernel) (by decide) ?_
    exact (k10 p1)
/-- SoulOfficeModel.isLeaf(IIII)Z, from 0 -/
theorem b259_0 (hG : Shp G) {v1 v2 v3 v4 x1 x2 x3 x4 x5 : Int} (hQ : ∀ o o' h', q_eqo o o' → Q o h' → Q o' h')
    (s0 : -2147483648 ≤ v2 ∧ v2 < 2147483648)
    (k1 : (¬ v2 = 0) → (¬ v2 = 1) → (¬ v2 = 2) → (¬ v2 = 3) → (¬ v2 = 4) → (¬ v2 = 5) → (¬ v2 = 6) → T (d + 1) 259 145 [none, none, none, some (aI v3), some (aI v4), none] [aI v1] (G, c) Q)
    (s2 : (¬ v2 = 0) → (¬ v2 = 1) → (¬ v2 = 2) → (¬ v2 = 3) → (¬ v2 = 4) → (¬ v2 = 5) → (v2 = 6) → 0 ≤ (181 + v1))
    (s3 : (¬ v2 = 0) → (¬ v2 = 1) → (¬ v2 = 2) → (¬ v2 = 3) → (¬ v2 = 4) → (¬ v2 = 5) → (v2 = 6) → (181 + v1) < 514)
    (ex1 : c 190 (181 + v1) = x1)
    (k5 : (¬ v2 = 0) → (¬ v2 = 1) → (¬ v2 = 2) → (¬ v2 = 3) → (¬ v2 = 4) → (¬ v2 = 5) → (v2 = 6) → T (d + 1) 259 145 [none, none, none, some (aI v3), some (aI v4), none] [aI x1] (G, c) Q)
    (s6 : (¬ v2 = 0) → (¬ v2 = 1) → (¬ v2 = 2) → (¬ v2 = 3) → (¬ v2 = 4) → (v2 = 5) → 0 ≤ (189 + v1))
    (s7 : (¬ v2 = 0) → (¬ v2 = 1) → (¬ v2 = 2) → (¬ v2 = 3) → (¬ v2 = 4) → (v2 = 5) → (189 + v1) < 514)
    (ex2 : c 190 (189 + v1) = x2)
    (k9 : (¬ v2 = 0) → (¬ v2 = 1) → (¬ v2 = 2) → (¬ v2 = 3) → (¬ v2 = 4) → (v2 = 5) → T (d + 1) 259 145 [none, none, none, some (aI v3), some (aI v4), none] [aI x2] (G, c) Q)
    (m10 : (¬ v2 = 0) → (¬ v2 = 1) → (¬ v2 = 2) → (¬ v2 = 3) → (v2 = 4) → TM d 193 [aR 188, aI v1] (G, c) (fun r h' => T (d + 1) 259 104 [none, none, none, some (aI v3), some (aI v4), none] (r.toList ++ []) h' Q))
    (m11 : (¬ v2 = 0) → (¬ v2 = 1) → (¬ v2 = 2) → (v2 = 3) → TM d 192 [aR 188, aI v1] (G, c) (fun r h' => T (d + 1) 259 91 [none, none, none, some (aI v3), some (aI v4), none] (r.toList ++ []) h' Q))
    (s12 : (¬ v2 = 0) → (¬ v2 = 1) → (v2 = 2) → 0 ≤ ((205 + (8 * v1)) + v4))
    (s13 : (¬ v2 = 0) → (¬ v2 = 1) → (v2 = 2) → ((205 + (8 * v1)) + v4) < 514)
    (ex3 : c 190 ((205 + (8 * v1)) + v4) = x3)
    (s15 : (¬ v2 = 0) → (¬ v2 = 1) → (v2 = 2) → -2147483648 ≤ x3 ∧ x3 < 2147483648)
    (z16 : (¬ v2 = 0) → (¬ v2 = 1) → (v2 = 2) → (x3 ≤ 0) → Q (.inl (some (aI 0))) (G, c))
    (z17 : (¬ v2 = 0) → (¬ v2 = 1) → (v2 = 2) → (0 < x3) → Q (.inl (some (aI 1))) (G, c))
    (s18 : (¬ v2 = 0) → (v2 = 1) → 0 ≤ (173 + v1))
    (s19 : (¬ v2 = 0) → (v2 = 1) → (173 + v1) < 514)
    (ex4 : c 190 (173 + v1) = x4)
    (s21 : (¬ v2 = 0) → (v2 = 1) → -2147483648 ≤ x4 ∧ x4 < 2147483648)
    (s22 : (¬ v2 = 0) → (v2 = 1) → -2147483648 ≤ (v4 + 1) ∧ (v4 + 1) < 2147483648)
    (z23 : (¬ v2 = 0) → (v2 = 1) → (¬ x4 = (v4 + 1)) → Q (.inl (some (aI 0))) (G, c))
    (z24 : (¬ v2 = 0) → (v2 = 1) → (x4 = (v4 + 1)) → Q (.inl (some (aI 1))) (G, c))
    (s25 : (v2 = 0) → 0 ≤ (173 + v1))
    (s26 : (v2 = 0) → (173 + v1) < 514)
    (ex5 : c 190 (173 + v1) = x5)
    (s28 : (v2 = 0) → -2147483648 ≤ x5 ∧ x5 < 2147483648)
    (z29 : (v2 = 0) → (¬ x5 = 0) → Q (.inl (some (aI 0))) (G, c))
    (z30 : (v2 = 0) → (x5 = 0) → Q (.inl (some (aI 1))) (G, c)) :
    T (d + 1) 259 0 [some (aR 188), some (aI v1), some (aI v2), some (aI v3), some (aI v4), none] [] (G, c) Q := by
  refine e_L (L' := [some (aR 188), some (aI v1), some (aI v2), some (aI v3), some (aI v4), none]) (st' := [aI v2]) (show decode (mC 259) 0 = .ok (.iload_n 2, 1) by decide +kernel) rfl rfl ?_
  refine e_ne1 (t := 23) (show decode (mC 259) 1 = .ok (.ifCond .ne 22, 3) by decide +kernel) (by decide) s0 (fun p1 => ?_) (fun p1 => ?_)
  · refine e_L (L' := [some (aR 188), some (aI v1), some (aI v2), some (aI v3), some (aI v4), none]) (st' := [aI v2]) (show decode (mC 259) 23 = .ok (.iload_n 2, 1) by decide +kernel) rfl rfl ?_
    refine e_P (st' := [aI 1, aI v2]) (show decode (mC 259) 24 = .ok (.iconst 1, 1) by decide +kernel) rfl rfl rfl ?_
    refine e_ne2 (t := 51) (show decode (mC 259) 25 = .ok (.if_icmp .ne 26, 3) by decide +kernel) (by decide) s0 (by decide) (fun p2 => ?_) (fun p2 => ?_)
    · refine e_L (L' := [some (aR 188), some (aI v1), some (aI v2), some (aI v3), some (aI v4), none]) (st' := [aI v2]) (show decode (mC 259) 51 = .ok (.iload_n 2, 1) by decide +kernel) rfl rfl ?_
      refine e_P (st' := [aI 2, aI v2]) (show decode (mC 259) 52 = .ok (.iconst 2, 1) by decide +kernel) rfl rfl rfl ?_
      refine e_ne2 (t := 81) (show decode (mC 259) 53 = .ok (.if_icmp .ne 28, 3) by decide +kernel) (by decide) s0 (by decide) (fun p3 => ?_) (fun p3 => ?_)
      · refine e_L (L' := [some (aR 188), some (aI v1), some (aI v2), some (aI v3), some (aI v4), none]) (st' := [aI v2]) (show decode (mC 259) 81 = .ok (.iload_n 2, 1) by decide +kernel) rfl rfl ?_
        refine e_P (st' := [aI 3, aI v2]) (show decode (mC 259) 82 = .ok (.iconst 3, 1) by decide +kernel) rfl rfl rfl ?_
        refine e_ne2 (t := 94) (show decode (mC 259) 83 = .ok (.if_icmp .ne 11, 3) by decide +kernel) (by decide) s0 (by decide) (fun p4 => ?_) (fun p4 => ?_)
        · refine e_L (L' := [some (aR 188), some (aI v1), some (aI v2), some (aI v3), some (aI v4), none]) (st' := [aI v2]) (show decode (mC 259) 94 = .ok (.iload_n 2, 1) by decide +kernel) rfl rfl ?_
          refine e_P (st' := [aI 4, aI v2]) (show decode (mC 259) 95 = .ok (.iconst 4, 1) by decide +kernel) rfl rfl rfl ?_
          refine e_ne2 (t := 107) (show decode (mC 259) 96 = .ok (.if_icmp .ne 11, 3) by decide +kernel) (by decide) s0 (by decide) (fun p5 => ?_) (fun p5 => ?_)
          · refine e_L (L' := [some (aR 188), some (aI v1), some (aI v2), some (aI v3), some (aI v4), none]) (st' := [aI v2]) (show decode (mC 259) 107 = .ok (.iload_n 2, 1) by decide +kernel) rfl rfl ?_
            refine e_P (st' := [aI 5, aI v2]) (show decode (mC 259) 108 = .ok (.iconst 5, 1) by decide +kernel) rfl rfl rfl ?_
            refine e_ne2 (t := 125) (show decode (mC 259) 109 = .ok (.if_icmp .ne 16, 3) by decide +kernel) (by decide) s0 (by decide) (fun p6 => ?_) (fun p6 => ?_)
            · refine e_L (L' := [some (aR 188), some (aI v1), some (aI v2), some (aI v3), some (aI v4), none]) (st' := [aI v2]) (show decode (mC 259) 125 = .ok (.iload_n 2, 1) by decide +kernel) rfl rfl ?_
              refine e_P (st' := [aI 6, aI v2]) (show decode (mC 259) 126 = .ok (.bipush 6, 2) by decide +kernel) rfl rfl rfl ?_
              refine e_ne2 (t := 144) (show decode (mC 259) 128 = .ok (.if_icmp .ne 16, 3) by decide +kernel) (by decide) s0 (by decide) (fun p7 => ?_) (fun p7 => ?_)
              · refine e_L (L' := [some (aR 188), some (aI v1), some (aI v2), some (aI v3), some (aI v4), none]) (st' := [aI v1]) (show decode (mC 259) 144 = .ok (.iload_n 1, 1) by decide +kernel) rfl rfl ?_
                exact T_le hQ (leN (leN (leN (leS (leS (leS leE)))))) (k1 p1 p2 p3 p4 p5 p6 p7)
              · refine e_L (L' := [some (aR 188), some (aI v1), some (aI v2), some (aI v3), some (aI v4), none]) (st' := [aR 188]) (show decode (mC 259) 131 = .ok (.aload_n 0, 1) by decide +kernel) rfl (by show (if 188 = 0 then none else some (_, _)) = _; rw [if_neg (by decide)]) ?_
                refine e_getR (w := 190) (show decode (mC 259) 132 = .ok (.getfield 33, 3) by decide +kernel) (show pl 12 33 = some (0, 12, 6, 0) by decide +kernel) (by decide) (sh_ok hG (by decide +kernel)) (sh_rf hG (by decide +kernel)) ?_
                refine e_P (st' := [aI 181, aR 190]) (show decode (mC 259) 135 = .ok (.sipush 181, 3) by decide +kernel) rfl rfl rfl ?_
                refine e_L (L' := [some (aR 188), some (aI v1), some (aI v2), some (aI v3), some (aI v4), none]) (st' := [aI v1, aI 181, aR 190]) (show decode (mC 259) 138 = .ok (.iload_n 1, 1) by decide +kernel) rfl rfl ?_
                refine e_P (st' := [aI (181 + v1), aR 190]) (show decode (mC 259) 139 = .ok (.iadd, 1) by decide +kernel) rfl rfl rfl ?_
                refine e_ialdx (n := 514) (show decode (mC 259) 140 = .ok (.iaload, 1) by decide +kernel) (sh_ok hG (by decide +kernel)) (sh_ln hG (by decide +kernel)) (by decide) (s2 p1 p2 p3 p4 p5 p6 p7) (s3 p1 p2 p3 p4 p5 p6 p7) ex1 ?_
                refine e_go (t := 145) (show decode (mC 259) 141 = .ok (.goto 4, 3) by decide +kernel) (by decide) ?_
                exact T_le hQ (leN (leN (leN (leS (leS (leS leE)))))) (k5 p1 p2 p3 p4 p5 p6 p7)
            · refine e_L (L' := [some (aR 188), some (aI v1), some (aI v2), some (aI v3), some (aI v4), none]) (st' := [aR 188]) (show decode (mC 259) 112 = .ok (.aload_n 0, 1) by decide +kernel) rfl (by show (if 188 = 0 then none else some (_, _)) = _; rw [if_neg (by decide)]) ?_
              refine e_getR (w := 190) (show decode (mC 259) 113 = .ok (.getfield 33, 3) by decide +kernel) (show pl 12 33 = some (0, 12, 6, 0) by decide +kernel) (by decide) (sh_ok hG (by decide +kernel)) (sh_rf hG (by decide +kernel)) ?_
              refine e_P (st' := [aI 189, aR 190]) (show decode (mC 259) 116 = .ok (.sipush 189, 3) by decide +kernel) rfl rfl rfl ?_
              refine e_L (L' := [some (aR 188), some (aI v1), some (aI v2), some (aI v3), some (aI v4), none]) (st' := [aI v1, aI 189, aR 190]) (show decode (mC 259) 119 = .ok (.iload_n 1, 1) by decide +kernel) rfl rfl ?_
              refine e_P (st' := [aI (189 + v1), aR 190]) (show decode (mC 259) 120 = .ok (.iadd, 1) by decide +kernel) rfl rfl rfl ?_
              refine e_ialdx (n := 514) (show decode (mC 259) 121 = .ok (.iaload, 1) by decide +kernel) (sh_ok hG (by decide +kernel)) (sh_ln hG (by decide +kernel)) (by decide) (s6 p1 p2 p3 p4 p5 p6) (s7 p1 p2 p3 p4 p5 p6) ex2 ?_
              refine e_go (t := 145) (show decode (mC 259) 122 = .ok (.goto 23, 3) by decide +kernel) (by decide) ?_
              exact T_le hQ (leN (leN (leN (leS (leS (leS leE)))))) (k9 p1 p2 p3 p4 p5 p6)
          · refine e_L (L' := [some (aR 188), some (aI v1), some (aI v2), some (aI v3), some (aI v4), none]) (st' := [aR 188]) (show decode (mC 259) 99 = .ok (.aload_n 0, 1) by decide +kernel) rfl (by show (if 188 = 0 then none else some (_, _)) = _; rw [if_neg (by decide)]) ?_
            refine e_L (L' := [some (aR 188), some (aI v1), some (aI v2), some (aI v3), some (aI v4), none]) (st' := [aI v1, aR 188]) (show decode (mC 259) 100 = .ok (.iload_n 1, 1) by decide +kernel) rfl rfl ?_
            exact e_V (as := [aR 188, aI v1]) (rest := []) (show decode (mC 259) 101 = .ok (.invokevirtual 258, 3) by decide +kernel) (by decide +kernel) (show (decide ((2 : Nat) = mA 193) && decide (193 < q_law)) = true by decide +kernel) rfl (show (0 : Nat) ≤ 8 by decide) (show (2 : Nat) ≤ mL 193 by decide +kernel) rfl (sh_ok hG (by decide +kernel)) (tm_le hQ (leN (leN (leN (leS (leS (leS leE)))))) (m10 p1 p2 p3 p4 p5))
        · refine e_L (L' := [some (aR 188), some (aI v1), some (aI v2), some (aI v3), some (aI v4), none]) (st' := [aR 188]) (show decode (mC 259) 86 = .ok (.aload_n 0, 1) by decide +kernel) rfl (by show (if 188 = 0 then none else some (_, _)) = _; rw [if_neg (by decide)]) ?_
          refine e_L (L' := [some (aR 188), some (aI v1), some (aI v2), some (aI v3), some (aI v4), none]) (st' := [aI v1, aR 188]) (show decode (mC 259) 87 = .ok (.iload_n 1, 1) by decide +kernel) rfl rfl ?_
          exact e_V (as := [aR 188, aI v1]) (rest := []) (show decode (mC 259) 88 = .ok (.invokevirtual 255, 3) by decide +kernel) (by decide +kernel) (show (decide ((2 : Nat) = mA 192) && decide (192 < q_law)) = true by decide +kernel) rfl (show (0 : Nat) ≤ 8 by decide) (show (2 : Nat) ≤ mL 192 by decide +kernel) rfl (sh_ok hG (by decide +kernel)) (tm_le hQ (leN (leN (leN (leS (leS (leS leE)))))) (m11 p1 p2 p3 p4))
      · refine e_L (L' := [some (aR 188), some (aI v1), some (aI v2), some (aI v3), some (aI v4), none]) (st' := [aR 188]) (show decode (mC 259) 56 = .ok (.aload_n 0, 1) by decide +kernel) rfl (by show (if 188 = 0 then none else some (_, _)) = _; rw [if_neg (by decide)]) ?_
        refine e_getR (w := 190) (show decode (mC 259) 57 = .ok (.getfield 33, 3) by decide +kernel) (show pl 12 33 = some (0, 12, 6, 0) by decide +kernel) (by decide) (sh_ok hG (by decide +kernel)) (sh_rf hG (by decide +kernel)) ?_
        refine e_P (st' := [aI 205, aR 190]) (show decode (mC 259) 60 = .ok (.sipush 205, 3) by decide +kernel) rfl rfl rfl ?_
        refine e_P (st' := [aI 8, aI 205, aR 190]) (show decode (mC 259) 63 = .ok (.bipush 8, 2) by decide +kernel) rfl rfl rfl ?_
        refine e_L (L' := [some (aR 188), some (aI v1), some (aI v2), some (aI v3), some (aI v4), none]) (st' := [aI v1, aI 8, aI 205, aR 190]) (show decode (mC 259) 65 = .ok (.iload_n 1, 1) by decide +kernel) rfl rfl ?_
        refine e_P (st' := [aI (8 * v1), aI 205, aR 190]) (show decode (mC 259) 66 = .ok (.imul, 1) by decide +kernel) rfl rfl rfl ?_
        refine e_P (st' := [aI (205 + (8 * v1)), aR 190]) (show decode (mC 259) 67 = .ok (.iadd, 1) by decide +kernel) rfl rfl rfl ?_
        refine e_L (L' := [some (aR 188), some (aI v1), some (aI v2), some (aI v3), some (aI v4), none]) (st' := [aI v4, aI (205 + (8 * v1)), aR 190]) (show decode (mC 259) 68 = .ok (.iload 4, 2) by decide +kernel) rfl rfl ?_
        refine e_P (st' := [aI ((205 + (8 * v1)) + v4), aR 190]) (show decode (mC 259) 70 = .ok (.iadd, 1) by decide +kernel) rfl rfl rfl ?_
        refine e_ialdx (n := 514) (show decode (mC 259) 71 = .ok (.iaload, 1) by decide +kernel) (sh_ok hG (by decide +kernel)) (sh_ln hG (by decide +kernel)) (by decide) (s12 p1 p2 p3) (s13 p1 p2 p3) ex3 ?_
        refine e_le1 (t := 79) (show decode (mC 259) 72 = .ok (.ifCond .le 7, 3) by decide +kernel) (by decide) (s15 p1 p2 p3) (fun p4 => ?_) (fun p4 => ?_)
        · refine e_P (st' := [aI 0]) (show decode (mC 259) 79 = .ok (.iconst 0, 1) by decide +kernel) rfl rfl rfl ?_
          exact e_zret (show decode (mC 259) 80 = .ok (.ireturn, 1) by decide +kernel) rfl (by decide) (z16 p1 p2 p3 p4)
        · refine e_P (st' := [aI 1]) (show decode (mC 259) 75 = .ok (.iconst 1, 1) by decide +kernel) rfl rfl rfl ?_
          refine e_go (t := 80) (show decode (mC 259) 76 = .ok (.goto 4, 3) by decide +kernel) (by decide) ?_
          exact e_zret (show decode (mC 259) 80 = .ok (.ireturn, 1) by decide +kernel) rfl (by decide) (z17 p1 p2 p3 p4)
    · refine e_L (L' := [some (aR 188), some (aI v1), some (aI v2), some (aI v3), some (aI v4), none]) (st' := [aR 188]) (show decode (mC 259) 28 = .ok (.aload_n 0, 1) by decide +kernel) rfl (by show (if 188 = 0 then none else some (_, _)) = _; rw [if_neg (by decide)]) ?_
      refine e_getR (w := 190) (show decode (mC 259) 29 = .ok (.getfield 33, 3) by decide +kernel) (show pl 12 33 = some (0, 12, 6, 0) by decide +kernel) (by decide) (sh_ok hG (by decide +kernel)) (sh_rf hG (by decide +kernel)) ?_
      refine e_P (st' := [aI 173, aR 190]) (show decode (mC 259) 32 = .ok (.sipush 173, 3) by decide +kernel) rfl rfl rfl ?_
      refine e_L (L' := [some (aR 188), some (aI v1), some (aI v2), some (aI v3), some (aI v4), none]) (st' := [aI v1, aI 173, aR 190]) (show decode (mC 259) 35 = .ok (.iload_n 1, 1) by decide +kernel) rfl rfl ?_
      refine e_P (st' := [aI (173 + v1), aR 190]) (show decode (mC 259) 36 = .ok (.iadd, 1) by decide +kernel) rfl rfl rfl ?_
      refine e_ialdx (n := 514) (show decode (mC 259) 37 = .ok (.iaload, 1) by decide +kernel) (sh_ok hG (by decide +kernel)) (sh_ln hG (by decide +kernel)) (by decide) (s18 p1 p2) (s19 p1 p2) ex4 ?_
      refine e_L (L' := [some (aR 188), some (aI v1), some (aI v2), some (aI v3), some (aI v4), none]) (st' := [aI v4, aI x4]) (show decode (mC 259) 38 = .ok (.iload 4, 2) by decide +kernel) rfl rfl ?_
      refine e_P (st' := [aI 1, aI v4, aI x4]) (show decode (mC 259) 40 = .ok (.iconst 1, 1) by decide +kernel) rfl rfl rfl ?_
      refine e_P (st' := [aI (v4 + 1), aI x4]) (show decode (mC 259) 41 = .ok (.iadd, 1) by decide +kernel) rfl rfl rfl ?_
      refine e_ne2 (t := 49) (show decode (mC 259) 42 = .ok (.if_icmp .ne 7, 3) by decide +kernel) (by decide) (s21 p1 p2) (s22 p1 p2) (fun p3 => ?_) (fun p3 => ?_)
      · refine e_P (st' := [aI 0]) (show decode (mC 259) 49 = .ok (.iconst 0, 1) by decide +kernel) rfl rfl rfl ?_
        exact e_zret (show decode (mC 259) 50 = .ok (.ireturn, 1) by decide +kernel) rfl (by decide) (z23 p1 p2 p3)
      · refine e_P (st' := [aI 1]) (show decode (mC 259) 45 = .ok (.iconst 1, 1) by decide +kernel) rfl rfl rfl ?_
        refine e_go (t := 50) (show decode (mC 259) 46 = .ok (.goto 4, 3) by decide +kernel) (by decide) ?_
        exact e_zret (show decode (mC 259) 50 = .ok (.ireturn, 1) by decide +kernel) rfl (by decide) (z24 p1 p2 p3)
  · refine e_L (L' := [some (aR 188), some (aI v1), some (aI v2), some (aI v3), some (aI v4), none]) (st' := [aR 188]) (show decode (mC 259) 4 = .ok (.aload_n 0, 1) by decide +kernel) rfl (by show (if 188 = 0 then none else some (_, _)) = _; rw [if_neg (by decide)]) ?_
    refine e_getR (w := 190) (show decode (mC 259) 5 = .ok (.getfield 33, 3) by decide +kernel) (show pl 12 33 = some (0, 12, 6, 0) by decide +kernel) (by decide) (sh_ok hG (by decide +kernel)) (sh_rf hG (by decide +kernel)) ?_
    refine e_P (st' := [aI 173, aR 190]) (show decode (mC 259) 8 = .ok (.sipush 173, 3) by decide +kernel) rfl rfl rfl ?_
    refine e_L (L' := [some (aR 188), some (aI v1), some (aI v2), some (aI v3), some (aI v4), none]) (st' := [aI v1, aI 173, aR 190]) (show decode (mC 259) 11 = .ok (.iload_n 1, 1) by decide +kernel) rfl rfl ?_
    refine e_P (st' := [aI (173 + v1), aR 190]) (show decode (mC 259) 12 = .ok (.iadd, 1) by decide +kernel) rfl rfl rfl ?_
    refine e_ialdx (n := 514) (show decode (mC 259) 13 = .ok (.iaload, 1) by decide +kernel) (sh_ok hG (by decide +kernel)) (sh_ln hG (by decide +kernel)) (by decide) (s25 p1) (s26 p1) ex5 ?_
    refine e_ne1 (t := 21) (show decode (mC 259) 14 = .ok (.ifCond .ne 7, 3) by decide +kernel) (by decide) (s28 p1) (fun p2 => ?_) (fun p2 => ?_)
    · refine e_P (st' := [aI 0]) (show decode (mC 259) 21 = .ok (.iconst 0, 1) by decide +kernel) rfl rfl rfl ?_
      exact e_zret (show decode (mC 259) 22 = .ok (.ireturn, 1) by decide +kernel) rfl (by decide) (z29 p1 p2)
    · refine e_P (st' := [aI 1]) (show decode (mC 259) 17 = .ok (.iconst 1, 1) by decide +kernel) rfl rfl rfl ?_
      refine e_go (t := 22) (show decode (mC 259) 18 = .ok (.goto 4, 3) by decide +kernel) (by decide) ?_
      exact e_zret (show decode (mC 259) 22 = .ok (.ireturn, 1) by decide +kernel) rfl (by decide) (z30 p1 p2)
/-- SoulOfficeModel.isLeaf(IIII)Z, from 91 -/
theorem b259_91 (hG : Shp G) {v3 v4 u0 : Int}
    (k0 : T (d + 1) 259 145 [none, none, none, some (aI v3), some (aI v4), none] [aI u0] (G, c) Q) :
    T (d + 1) 259 91 [none, none, none, some (aI v3), some (aI v4), none] [aI u0] (G, c) Q := by
  refine e_go (t := 145) (show decode (mC 259) 91 = .ok (.goto 54, 3) by decide +kernel) (by decide) ?_
  exact k0
/-- SoulOfficeModel.isLeaf(IIII)Z, from 104 -/
theorem b259_104 (hG : Shp G) {v3 v4 u0 : Int}
    (k0 : T (d + 1) 259 145 [none, none, none, some (aI v3), some (aI v4), none] [aI u0] (G, c) Q) :
    T (d + 1) 259 104 [none, none, none, some (aI v3), some (aI v4), none] [aI u0] (G, c) Q := by
  refine e_go (t := 145) (show decode (mC 259) 104 = .ok (.goto 41, 3) by decide +kernel) (by decide) ?_
  exact k0
/-- SoulOfficeModel.isLeaf(IIII)Z, from 145 -/
theorem b259_145 (hG : Shp G) {v3 v4 u0 : Int} (hQ : ∀ o o' h', q_eqo o o' → Q o h' → Q o' h')
    (s0 : -2147483648 ≤ v3 ∧ v3 < 2147483648)
    (s1 : (¬ v3 = 60) → (¬ v3 = 61) → -2147483648 ≤ u0 ∧ u0 < 2147483648)
    (s2 : (¬ v3 = 60) → (¬ v3 = 61) → -2147483648 ≤ v4 ∧ v4 < 2147483648)
    (k3 : (¬ v3 = 60) → (¬ v3 = 61) → (u0 ≤ v4) → T (d + 1) 259 201 [none, none, none, none, none, none] [aI 0] (G, c) Q)
    (k4 : (¬ v3 = 60) → (¬ v3 = 61) → (v4 < u0) → T (d + 1) 259 201 [none, none, none, none, none, none] [aI 1] (G, c) Q)
    (s5 : (¬ v3 = 60) → (v3 = 61) → -2147483648 ≤ u0 ∧ u0 < 2147483648)
    (s6 : (¬ v3 = 60) → (v3 = 61) → -2147483648 ≤ v4 ∧ v4 < 2147483648)
    (k7 : (¬ v3 = 60) → (v3 = 61) → (¬ u0 = v4) → T (d + 1) 259 201 [none, none, none, none, none, none] [aI 0] (G, c) Q)
    (k8 : (¬ v3 = 60) → (v3 = 61) → (u0 = v4) → T (d + 1) 259 201 [none, none, none, none, none, none] [aI 1] (G, c) Q)
    (s9 : (v3 = 60) → -2147483648 ≤ u0 ∧ u0 < 2147483648)
    (s10 : (v3 = 60) → -2147483648 ≤ v4 ∧ v4 < 2147483648)
    (k11 : (v3 = 60) → (v4 ≤ u0) → T (d + 1) 259 201 [none, none, none, none, none, none] [aI 0] (G, c) Q)
    (k12 : (v3 = 60) → (u0 < v4) → T (d + 1) 259 201 [none, none, none, none, none, none] [aI 1] (G, c) Q) :
    T (d + 1) 259 145 [none, none, none, some (aI v3), some (aI v4), none] [aI u0] (G, c) Q := by
  refine e_L (L' := [none, none, none, some (aI v3), some (aI v4), some (aI u0)]) (st' := []) (show decode (mC 259) 145 = .ok (.istore 5, 2) by decide +kernel) rfl rfl ?_
  refine e_L (L' := [none, none, none, some (aI v3), some (aI v4), some (aI u0)]) (st' := [aI v3]) (show decode (mC 259) 147 = .ok (.iload_n 3, 1) by decide +kernel) rfl rfl ?_
  refine e_P (st' := [aI 60, aI v3]) (show decode (mC 259) 148 = .ok (.bipush 60, 2) by decide +kernel) rfl rfl rfl ?_
  refine e_ne2 (t := 168) (show decode (mC 259) 150 = .ok (.if_icmp .ne 18, 3) by decide +kernel) (by decide) s0 (by decide) (fun p1 => ?_) (fun p1 => ?_)
  · refine e_L (L' := [none, none, none, some (aI v3), some (aI v4), some (aI u0)]) (st' := [aI v3]) (show decode (mC 259) 168 = .ok (.iload_n 3, 1) by decide +kernel) rfl rfl ?_
    refine e_P (st' := [aI 61, aI v3]) (show decode (mC 259) 169 = .ok (.bipush 61, 2) by decide +kernel) rfl rfl rfl ?_
    refine e_ne2 (t := 189) (show decode (mC 259) 171 = .ok (.if_icmp .ne 18, 3) by decide +kernel) (by decide) s0 (by decide) (fun p2 => ?_) (fun p2 => ?_)
    · refine e_L (L' := [none, none, none, some (aI v3), some (aI v4), some (aI u0)]) (st' := [aI u0]) (show decode (mC 259) 189 = .ok (.iload 5, 2) by decide +kernel) rfl rfl ?_
      refine e_L (L' := [none, none, none, some (aI v3), some (aI v4), some (aI u0)]) (st' := [aI v4, aI u0]) (show decode (mC 259) 191 = .ok (.iload 4, 2) by decide +kernel) rfl rfl ?_
      refine e_le2 (t := 200) (show decode (mC 259) 193 = .ok (.if_icmp .le 7, 3) by decide +kernel) (by decide) (s1 p1 p2) (s2 p1 p2) (fun p3 => ?_) (fun p3 => ?_)
      · refine e_P (st' := [aI 0]) (show decode (mC 259) 200 = .ok (.iconst 0, 1) by decide +kernel) rfl rfl rfl ?_
        exact T_le hQ (leS (leS (leS (leN (leN (leN leE)))))) (k3 p1 p2 p3)
      · refine e_P (st' := [aI 1]) (show decode (mC 259) 196 = .ok (.iconst 1, 1) by decide +kernel) rfl rfl rfl ?_
        refine e_go (t := 201) (show decode (mC 259) 197 = .ok (.goto 4, 3) by decide +kernel) (by decide) ?_
        exact T_le hQ (leS (leS (leS (leN (leN (leN leE)))))) (k4 p1 p2 p3)
    · refine e_L (L' := [none, none, none, some (aI v3), some (aI v4), some (aI u0)]) (st' := [aI u0]) (show decode (mC 259) 174 = .ok (.iload 5, 2) by decide +kernel) rfl rfl ?_
      refine e_L (L' := [none, none, none, some (aI v3), some (aI v4), some (aI u0)]) (st' := [aI v4, aI u0]) (show decode (mC 259) 176 = .ok (.iload 4, 2) by decide +kernel) rfl rfl ?_
      refine e_ne2 (t := 185) (show decode (mC 259) 178 = .ok (.if_icmp .ne 7, 3) by decide +kernel) (by decide) (s5 p1 p2) (s6 p1 p2) (fun p3 => ?_) (fun p3 => ?_)
      · refine e_P (st' := [aI 0]) (show decode (mC 259) 185 = .ok (.iconst 0, 1) by decide +kernel) rfl rfl rfl ?_
        refine e_go (t := 201) (show decode (mC 259) 186 = .ok (.goto 15, 3) by decide +kernel) (by decide) ?_
        exact T_le hQ (leS (leS (leS (leN (leN (leN leE)))))) (k7 p1 p2 p3)
      · refine e_P (st' := [aI 1]) (show decode (mC 259) 181 = .ok (.iconst 1, 1) by decide +kernel) rfl rfl rfl ?_
        refine e_go (t := 201) (show decode (mC 259) 182 = .ok (.goto 19, 3) by decide +kernel) (by decide) ?_
        exact T_le hQ (leS (leS (leS (leN (leN (leN leE)))))) (k8 p1 p2 p3)
  · refine e_L (L' := [none, none, none, some (aI v3), some (aI v4), some (aI u0)]) (st' := [aI u0]) (show decode (mC 259) 153 = .ok (.iload 5, 2) by decide +kernel) rfl rfl ?_
    refine e_L (L' := [none, none, none, some (aI v3), some (aI v4), some (aI u0)]) (st' := [aI v4, aI u0]) (show decode (mC 259) 155 = .ok (.iload 4, 2) by decide +kernel) rfl rfl ?_
    refine e_ge2 (t := 164) (show decode (mC 259) 157 = .ok (.if_icmp .ge 7, 3) by decide +kernel) (by decide) (s9 p1) (s10 p1) (fun p2 => ?_) (fun p2 => ?_)
    · refine e_P (st' := [aI 0]) (show decode (mC 259) 164 = .ok (.iconst 0, 1) by decide +kernel) rfl rfl rfl ?_
      refine e_go (t := 201) (show decode (mC 259) 165 = .ok (.goto 36, 3) by decide +kernel) (by decide) ?_
      exact T_le hQ (leS (leS (leS (leN (leN (leN leE)))))) (k11 p1 p2)
    · refine e_P (st' := [aI 1]) (show decode (mC 259) 160 = .ok (.iconst 1, 1) by decide +kernel) rfl rfl rfl ?_
      refine e_go (t := 201) (show decode (mC 259) 161 = .ok (.goto 40, 3) by decide +kernel) (by decide) ?_
      exact T_le hQ (leS (leS (leS (leN (leN (leN leE)))))) (k12 p1 p2)
/-- SoulOfficeModel.isLeaf(IIII)Z, from 201 -/
theorem b259_201 (hG : Shp G) {u0 : Int}
    (s0 : u0 = 0 ∨ u0 = 1)
    (z1 : Q (.inl (some (aI u0))) (G, c)) :
    T (d + 1) 259 201 [none, none, none, none, none, none] [aI u0] (G, c) Q := by
  exact e_zret (show decode (mC 259) 201 = .ok (.ireturn, 1) by decide +kernel) rfl s0 z1
/-- SoulOfficeModel.isSaid(I)Z, from 0 -/
theorem b260_0 (hG : Shp G) {v1 : Int}
    (k0 : T (d + 1) 260 4 [some (aR 188), some (aI v1), some (aI 0), some (aI 0), none] [] (G, c) Q) :
    T (d + 1) 260 0 [some (aR 188), some (aI v1), none, none, none] [] (G, c) Q := by
  refine e_P (st' := [aI 0]) (show decode (mC 260) 0 = .ok (.iconst 0, 1) by decide +kernel) rfl rfl rfl ?_
  refine e_L (L' := [some (aR 188), some (aI v1), some (aI 0), none, none]) (st' := []) (show decode (mC 260) 1 = .ok (.istore_n 2, 1) by decide +kernel) rfl rfl ?_
  refine e_P (st' := [aI 0]) (show decode (mC 260) 2 = .ok (.iconst 0, 1) by decide +kernel) rfl rfl rfl ?_
  refine e_L (L' := [some (aR 188), some (aI v1), some (aI 0), some (aI 0), none]) (st' := []) (show decode (mC 260) 3 = .ok (.istore_n 3, 1) by decide +kernel) rfl rfl ?_
  exact k0
/-- SoulOfficeModel.isSaid(I)Z, from 4 -/
theorem b260_4 (hG : Shp G) {v1 v2 v3 x1 x2 x3 x4 x5 x6 x7 x8 x9 : Int} (hQ : ∀ o o' h', q_eqo o o' → Q o h' → Q o' h')
    (ex1 : c 190 333 = x1)
    (s1 : -2147483648 ≤ v3 ∧ v3 < 2147483648)
    (s2 : -2147483648 ≤ x1 ∧ x1 < 2147483648)
    (ex2 : c 207 0 = x2)
    (s4 : (x1 ≤ v3) → x2 = 0 ∨ x2 = 1)
    (z5 : (x1 ≤ v3) → Q (.inl (some (aI x2))) (G, c))
    (s6 : (v3 < x1) → 0 ≤ (334 + (3 * v3)))
    (s7 : (v3 < x1) → (334 + (3 * v3)) < 514)
    (ex3 : c 190 (334 + (3 * v3)) = x3)
    (s9 : (v3 < x1) → -2147483648 ≤ x3 ∧ x3 < 2147483648)
    (ex4 : c 190 (334 + (3 * v3)) = x4)
    (s11 : (v3 < x1) → (¬ x3 = 20) → -2147483648 ≤ x4 ∧ x4 < 2147483648)
    (k12 : (v3 < x1) → (¬ x3 = 20) → (x4 = 21) → T (d + 1) 260 88 [some (aR 188), some (aI v1), some (aI v2), some (aI v3), some (aI (334 + (3 * v3)))] [] (G, c) Q)
    (ex5 : c 190 (334 + (3 * v3)) = x5)
    (s14 : (v3 < x1) → (¬ x3 = 20) → (¬ x4 = 21) → -2147483648 ≤ x5 ∧ x5 < 2147483648)
    (ex6 : c 190 (334 + (3 * v3)) = x6)
    (s16 : (v3 < x1) → (¬ x3 = 20) → (¬ x4 = 21) → (¬ x5 = 22) → 0 ≤ ((334 + (3 * v3)) + 1))
    (s17 : (v3 < x1) → (¬ x3 = 20) → (¬ x4 = 21) → (¬ x5 = 22) → ((334 + (3 * v3)) + 1) < 514)
    (ex7 : c 190 ((334 + (3 * v3)) + 1) = x7)
    (s19 : (v3 < x1) → (¬ x3 = 20) → (¬ x4 = 21) → (¬ x5 = 22) → 0 ≤ ((334 + (3 * v3)) + 2))
    (s20 : (v3 < x1) → (¬ x3 = 20) → (¬ x4 = 21) → (¬ x5 = 22) → ((334 + (3 * v3)) + 2) < 514)
    (ex8 : c 190 ((334 + (3 * v3)) + 2) = x8)
    (m22 : (v3 < x1) → (¬ x3 = 20) → (¬ x4 = 21) → (¬ x5 = 22) → TM d 259 [aR 188, aI v1, aI x6, aI x7, aI x8] (G, c) (fun r h' => T (d + 1) 260 202 [some (aR 188), some (aI v1), some (aI v2), some (aI v3), none] (r.toList ++ [aI v2, aR 207]) h' Q))
    (k23 : (v3 < x1) → (¬ x3 = 20) → (¬ x4 = 21) → (x5 = 22) → T (d + 1) 260 88 [some (aR 188), some (aI v1), some (aI v2), some (aI v3), some (aI (334 + (3 * v3)))] [] (G, c) Q)
    (s24 : (v3 < x1) → (x3 = 20) → 0 ≤ (v2 - 1))
    (s25 : (v3 < x1) → (x3 = 20) → (v2 - 1) < 45)
    (ex9 : c 207 (v2 - 1) = x9)
    (s27 : (v3 < x1) → (x3 = 20) → -2147483648 ≤ x9 ∧ x9 < 2147483648)
    (k28 : (v3 < x1) → (x3 = 20) → (¬ x9 = 0) → T (d + 1) 260 206 [some (aR 188), some (aI v1), some (aI v2), some (aI v3), none] [] (G, (q_up c 207 (v2 - 1) (q_nar 23 0))) Q)
    (k29 : (v3 < x1) → (x3 = 20) → (x9 = 0) → T (d + 1) 260 206 [some (aR 188), some (aI v1), some (aI v2), some (aI v3), none] [] (G, (q_up c 207 (v2 - 1) (q_nar 23 1))) Q) :
    T (d + 1) 260 4 [some (aR 188), some (aI v1), some (aI v2), some (aI v3), none] [] (G, c) Q := by
  refine e_L (L' := [some (aR 188), some (aI v1), some (aI v2), some (aI v3), none]) (st' := [aI v3]) (show decode (mC 260) 4 = .ok (.iload_n 3, 1) by decide +kernel) rfl rfl ?_
  refine e_L (L' := [some (aR 188), some (aI v1), some (aI v2), some (aI v3), none]) (st' := [aR 188, aI v3]) (show decode (mC 260) 5 = .ok (.aload_n 0, 1) by decide +kernel) rfl (by show (if 188 = 0 then none else some (_, _)) = _; rw [if_neg (by decide)]) ?_
  refine e_getR (w := 190) (show decode (mC 260) 6 = .ok (.getfield 33, 3) by decide +kernel) (show pl 12 33 = some (0, 12, 6, 0) by decide +kernel) (by decide) (sh_ok hG (by decide +kernel)) (sh_rf hG (by decide +kernel)) ?_
  refine e_P (st' := [aI 333, aR 190, aI v3]) (show decode (mC 260) 9 = .ok (.sipush 333, 3) by decide +kernel) rfl rfl rfl ?_
  refine e_ialdx (n := 514) (show decode (mC 260) 12 = .ok (.iaload, 1) by decide +kernel) (sh_ok hG (by decide +kernel)) (sh_ln hG (by decide +kernel)) (by decide) (by decide) (by decide) ex1 ?_
  refine e_ge2 (t := 212) (show decode (mC 260) 13 = .ok (.if_icmp .ge 199, 3) by decide +kernel) (by decide) s1 s2 (fun p1 => ?_) (fun p1 => ?_)
  · refine e_L (L' := [some (aR 188), some (aI v1), some (aI v2), some (aI v3), none]) (st' := [aR 188]) (show decode (mC 260) 212 = .ok (.aload_n 0, 1) by decide +kernel) rfl (by show (if 188 = 0 then none else some (_, _)) = _; rw [if_neg (by decide)]) ?_
    refine e_getR (w := 207) (show decode (mC 260) 213 = .ok (.getfield 89, 3) by decide +kernel) (show pl 12 89 = some (0, 12, 45, 0) by decide +kernel) (by decide) (sh_ok hG (by decide +kernel)) (sh_rf hG (by decide +kernel)) ?_
    refine e_P (st' := [aI 0, aR 207]) (show decode (mC 260) 216 = .ok (.iconst 0, 1) by decide +kernel) rfl rfl rfl ?_
    refine e_baldx (n := 45) (show decode (mC 260) 217 = .ok (.baload, 1) by decide +kernel) (Or.inr (sh_ok hG (by decide +kernel))) (sh_ln hG (by decide +kernel)) (by decide) (by decide) (by decide) ex2 ?_
    exact e_zret (show decode (mC 260) 218 = .ok (.ireturn, 1) by decide +kernel) rfl (s4 p1) (z5 p1)
  · refine e_P (st' := [aI 334]) (show decode (mC 260) 16 = .ok (.sipush 334, 3) by decide +kernel) rfl rfl rfl ?_
    refine e_P (st' := [aI 3, aI 334]) (show decode (mC 260) 19 = .ok (.iconst 3, 1) by decide +kernel) rfl rfl rfl ?_
    refine e_L (L' := [some (aR 188), some (aI v1), some (aI v2), some (aI v3), none]) (st' := [aI v3, aI 3, aI 334]) (show decode (mC 260) 20 = .ok (.iload_n 3, 1) by decide +kernel) rfl rfl ?_
    refine e_P (st' := [aI (3 * v3), aI 334]) (show decode (mC 260) 21 = .ok (.imul, 1) by decide +kernel) rfl rfl rfl ?_
    refine e_P (st' := [aI (334 + (3 * v3))]) (show decode (mC 260) 22 = .ok (.iadd, 1) by decide +kernel) rfl rfl rfl ?_
    refine e_L (L' := [some (aR 188), some (aI v1), some (aI v2), some (aI v3), some (aI (334 + (3 * v3)))]) (st' := []) (show decode (mC 260) 23 = .ok (.istore 4, 2) by decide +kernel) rfl rfl ?_
    refine e_L (L' := [some (aR 188), some (aI v1), some (aI v2), some (aI v3), some (aI (334 + (3 * v3)))]) (st' := [aR 188]) (show decode (mC 260) 25 = .ok (.aload_n 0, 1) by decide +kernel) rfl (by show (if 188 = 0 then none else some (_, _)) = _; rw [if_neg (by decide)]) ?_
    refine e_getR (w := 190) (show decode (mC 260) 26 = .ok (.getfield 33, 3) by decide +kernel) (show pl 12 33 = some (0, 12, 6, 0) by decide +kernel) (by decide) (sh_ok hG (by decide +kernel)) (sh_rf hG (by decide +kernel)) ?_
    refine e_L (L' := [some (aR 188), some (aI v1), some (aI v2), some (aI v3), some (aI (334 + (3 * v3)))]) (st' := [aI (334 + (3 * v3)), aR 190]) (show decode (mC 260) 29 = .ok (.iload 4, 2) by decide +kernel) rfl rfl ?_
    refine e_ialdx (n := 514) (show decode (mC 260) 31 = .ok (.iaload, 1) by decide +kernel) (sh_ok hG (by decide +kernel)) (sh_ln hG (by decide +kernel)) (by decide) (s6 p1) (s7 p1) ex3 ?_
    refine e_P (st' := [aI 20, aI x3]) (show decode (mC 260) 32 = .ok (.bipush 20, 2) by decide +kernel) rfl rfl rfl ?_
    refine e_ne2 (t := 64) (show decode (mC 260) 34 = .ok (.if_icmp .ne 30, 3) by decide +kernel) (by decide) (s9 p1) (by decide) (fun p2 => ?_) (fun p2 => ?_)
    · refine e_L (L' := [some (aR 188), some (aI v1), some (aI v2), some (aI v3), some (aI (334 + (3 * v3)))]) (st' := [aR 188]) (show decode (mC 260) 64 = .ok (.aload_n 0, 1) by decide +kernel) rfl (by show (if 188 = 0 then none else some (_, _)) = _; rw [if_neg (by decide)]) ?_
      refine e_getR (w := 190) (show decode (mC 260) 65 = .ok (.getfield 33, 3) by decide +kernel) (show pl 12 33 = some (0, 12, 6, 0) by decide +kernel) (by decide) (sh_ok hG (by decide +kernel)) (sh_rf hG (by decide +kernel)) ?_
      refine e_L (L' := [some (aR 188), some (aI v1), some (aI v2), some (aI v3), some (aI (334 + (3 * v3)))]) (st' := [aI (334 + (3 * v3)), aR 190]) (show decode (mC 260) 68 = .ok (.iload 4, 2) by decide +kernel) rfl rfl ?_
      refine e_ialdx (n := 514) (show decode (mC 260) 70 = .ok (.iaload, 1) by decide +kernel) (sh_ok hG (by decide +kernel)) (sh_ln hG (by decide +kernel)) (by decide) (s6 p1) (s7 p1) ex4 ?_
      refine e_P (st' := [aI 21, aI x4]) (show decode (mC 260) 71 = .ok (.bipush 21, 2) by decide +kernel) rfl rfl rfl ?_
      refine e_eq2 (t := 88) (show decode (mC 260) 73 = .ok (.if_icmp .eq 15, 3) by decide +kernel) (by decide) (s11 p1 p2) (by decide) (fun p3 => ?_) (fun p3 => ?_)
      · exact (k12 p1 p2 p3)
      · refine e_L (L' := [some (aR 188), some (aI v1), some (aI v2), some (aI v3), some (aI (334 + (3 * v3)))]) (st' := [aR 188]) (show decode (mC 260) 76 = .ok (.aload_n 0, 1) by decide +kernel) rfl (by show (if 188 = 0 then none else some (_, _)) = _; rw [if_neg (by decide)]) ?_
        refine e_getR (w := 190) (show decode (mC 260) 77 = .ok (.getfield 33, 3) by decide +kernel) (show pl 12 33 = some (0, 12, 6, 0) by decide +kernel) (by decide) (sh_ok hG (by decide +kernel)) (sh_rf hG (by decide +kernel)) ?_
        refine e_L (L' := [some (aR 188), some (aI v1), some (aI v2), some (aI v3), some (aI (334 + (3 * v3)))]) (st' := [aI (334 + (3 * v3)), aR 190]) (show decode (mC 260) 80 = .ok (.iload 4, 2) by decide +kernel) rfl rfl ?_
        refine e_ialdx (n := 514) (show decode (mC 260) 82 = .ok (.iaload, 1) by decide +kernel) (sh_ok hG (by decide +kernel)) (sh_ln hG (by decide +kernel)) (by decide) (s6 p1) (s7 p1) ex5 ?_
        refine e_P (st' := [aI 22, aI x5]) (show decode (mC 260) 83 = .ok (.bipush 22, 2) by decide +kernel) rfl rfl rfl ?_
        refine e_ne2 (t := 167) (show decode (mC 260) 85 = .ok (.if_icmp .ne 82, 3) by decide +kernel) (by decide) (s14 p1 p2 p3) (by decide) (fun p4 => ?_) (fun p4 => ?_)
        · refine e_L (L' := [some (aR 188), some (aI v1), some (aI v2), some (aI v3), some (aI (334 + (3 * v3)))]) (st' := [aR 188]) (show decode (mC 260) 167 = .ok (.aload_n 0, 1) by decide +kernel) rfl (by show (if 188 = 0 then none else some (_, _)) = _; rw [if_neg (by decide)]) ?_
          refine e_getR (w := 207) (show decode (mC 260) 168 = .ok (.getfield 89, 3) by decide +kernel) (show pl 12 89 = some (0, 12, 45, 0) by decide +kernel) (by decide) (sh_ok hG (by decide +kernel)) (sh_rf hG (by decide +kernel)) ?_
          refine e_L (L' := [some (aR 188), some (aI v1), some (aI v2), some (aI v3), some (aI (334 + (3 * v3)))]) (st' := [aI v2, aR 207]) (show decode (mC 260) 171 = .ok (.iload_n 2, 1) by decide +kernel) rfl rfl ?_
          refine e_L (L' := [some (aR 188), some (aI v1), some (aI v2), some (aI v3), some (aI (334 + (3 * v3)))]) (st' := [aR 188, aI v2, aR 207]) (show decode (mC 260) 172 = .ok (.aload_n 0, 1) by decide +kernel) rfl (by show (if 188 = 0 then none else some (_, _)) = _; rw [if_neg (by decide)]) ?_
          refine e_L (L' := [some (aR 188), some (aI v1), some (aI v2), some (aI v3), some (aI (334 + (3 * v3)))]) (st' := [aI v1, aR 188, aI v2, aR 207]) (show decode (mC 260) 173 = .ok (.iload_n 1, 1) by decide +kernel) rfl rfl ?_
          refine e_L (L' := [some (aR 188), some (aI v1), some (aI v2), some (aI v3), some (aI (334 + (3 * v3)))]) (st' := [aR 188, aI v1, aR 188, aI v2, aR 207]) (show decode (mC 260) 174 = .ok (.aload_n 0, 1) by decide +kernel) rfl (by show (if 188 = 0 then none else some (_, _)) = _; rw [if_neg (by decide)]) ?_
          refine e_getR (w := 190) (show decode (mC 260) 175 = .ok (.getfield 33, 3) by decide +kernel) (show pl 12 33 = some (0, 12, 6, 0) by decide +kernel) (by decide) (sh_ok hG (by decide +kernel)) (sh_rf hG (by decide +kernel)) ?_
          refine e_L (L' := [some (aR 188), some (aI v1), some (aI v2), some (aI v3), some (aI (334 + (3 * v3)))]) (st' := [aI (334 + (3 * v3)), aR 190, aI v1, aR 188, aI v2, aR 207]) (show decode (mC 260) 178 = .ok (.iload 4, 2) by decide +kernel) rfl rfl ?_
          refine e_ialdx (n := 514) (show decode (mC 260) 180 = .ok (.iaload, 1) by decide +kernel) (sh_ok hG (by decide +kernel)) (sh_ln hG (by decide +kernel)) (by decide) (s6 p1) (s7 p1) ex6 ?_
          refine e_L (L' := [some (aR 188), some (aI v1), some (aI v2), some (aI v3), some (aI (334 + (3 * v3)))]) (st' := [aR 188, aI x6, aI v1, aR 188, aI v2, aR 207]) (show decode (mC 260) 181 = .ok (.aload_n 0, 1) by decide +kernel) rfl (by show (if 188 = 0 then none else some (_, _)) = _; rw [if_neg (by decide)]) ?_
          refine e_getR (w := 190) (show decode (mC 260) 182 = .ok (.getfield 33, 3) by decide +kernel) (show pl 12 33 = some (0, 12, 6, 0) by decide +kernel) (by decide) (sh_ok hG (by decide +kernel)) (sh_rf hG (by decide +kernel)) ?_
          refine e_L (L' := [some (aR 188), some (aI v1), some (aI v2), some (aI v3), some (aI (334 + (3 * v3)))]) (st' := [aI (334 + (3 * v3)), aR 190, aI x6, aI v1, aR 188, aI v2, aR 207]) (show decode (mC 260) 185 = .ok (.iload 4, 2) by decide +kernel) rfl rfl ?_
          refine e_P (st' := [aI 1, aI (334 + (3 * v3)), aR 190, aI x6, aI v1, aR 188, aI v2, aR 207]) (show decode (mC 260) 187 = .ok (.iconst 1, 1) by decide +kernel) rfl rfl rfl ?_
          refine e_P (st' := [aI ((334 + (3 * v3)) + 1), aR 190, aI x6, aI v1, aR 188, aI v2, aR 207]) (show decode (mC 260) 188 = .ok (.iadd, 1) by decide +kernel) rfl rfl rfl ?_
          refine e_ialdx (n := 514) (show decode (mC 260) 189 = .ok (.iaload, 1) by decide +kernel) (sh_ok hG (by decide +kernel)) (sh_ln hG (by decide +kernel)) (by decide) (s16 p1 p2 p3 p4) (s17 p1 p2 p3 p4) ex7 ?_
          refine e_L (L' := [some (aR 188), some (aI v1), some (aI v2), some (aI v3), some (aI (334 + (3 * v3)))]) (st' := [aR 188, aI x7, aI x6, aI v1, aR 188, aI v2, aR 207]) (show decode (mC 260) 190 = .ok (.aload_n 0, 1) by decide +kernel) rfl (by show (if 188 = 0 then none else some (_, _)) = _; rw [if_neg (by decide)]) ?_
          refine e_getR (w := 190) (show decode (mC 260) 191 = .ok (.getfield 33, 3) by decide +kernel) (show pl 12 33 = some (0, 12, 6, 0) by decide +kernel) (by decide) (sh_ok hG (by decide +kernel)) (sh_rf hG (by decide +kernel)) ?_
          refine e_L (L' := [some (aR 188), some (aI v1), some (aI v2), some (aI v3), some (aI (334 + (3 * v3)))]) (st' := [aI (334 + (3 * v3)), aR 190, aI x7, aI x6, aI v1, aR 188, aI v2, aR 207]) (show decode (mC 260) 194 = .ok (.iload 4, 2) by decide +kernel) rfl rfl ?_
          refine e_P (st' := [aI 2, aI (334 + (3 * v3)), aR 190, aI x7, aI x6, aI v1, aR 188, aI v2, aR 207]) (show decode (mC 260) 196 = .ok (.iconst 2, 1) by decide +kernel) rfl rfl rfl ?_
          refine e_P (st' := [aI ((334 + (3 * v3)) + 2), aR 190, aI x7, aI x6, aI v1, aR 188, aI v2, aR 207]) (show decode (mC 260) 197 = .ok (.iadd, 1) by decide +kernel) rfl rfl rfl ?_
          refine e_ialdx (n := 514) (show decode (mC 260) 198 = .ok (.iaload, 1) by decide +kernel) (sh_ok hG (by decide +kernel)) (sh_ln hG (by decide +kernel)) (by decide) (s19 p1 p2 p3 p4) (s20 p1 p2 p3 p4) ex8 ?_
          exact e_V (as := [aR 188, aI v1, aI x6, aI x7, aI x8]) (rest := [aI v2, aR 207]) (show decode (mC 260) 199 = .ok (.invokevirtual 412, 3) by decide +kernel) (by decide +kernel) (show (decide ((5 : Nat) = mA 259) && decide (259 < q_law)) = true by decide +kernel) rfl (show (2 : Nat) ≤ 8 by decide) (show (5 : Nat) ≤ mL 259 by decide +kernel) rfl (sh_ok hG (by decide +kernel)) (tm_le hQ (leS (leS (leS (leS (leN leE))))) (m22 p1 p2 p3 p4))
        · exact (k23 p1 p2 p3 p4)
    · refine e_L (L' := [some (aR 188), some (aI v1), some (aI v2), some (aI v3), some (aI (334 + (3 * v3)))]) (st' := [aR 188]) (show decode (mC 260) 37 = .ok (.aload_n 0, 1) by decide +kernel) rfl (by show (if 188 = 0 then none else some (_, _)) = _; rw [if_neg (by decide)]) ?_
      refine e_getR (w := 207) (show decode (mC 260) 38 = .ok (.getfield 89, 3) by decide +kernel) (show pl 12 89 = some (0, 12, 45, 0) by decide +kernel) (by decide) (sh_ok hG (by decide +kernel)) (sh_rf hG (by decide +kernel)) ?_
      refine e_L (L' := [some (aR 188), some (aI v1), some (aI v2), some (aI v3), some (aI (334 + (3 * v3)))]) (st' := [aI v2, aR 207]) (show decode (mC 260) 41 = .ok (.iload_n 2, 1) by decide +kernel) rfl rfl ?_
      refine e_P (st' := [aI 1, aI v2, aR 207]) (show decode (mC 260) 42 = .ok (.iconst 1, 1) by decide +kernel) rfl rfl rfl ?_
      refine e_P (st' := [aI (v2 - 1), aR 207]) (show decode (mC 260) 43 = .ok (.isub, 1) by decide +kernel) rfl rfl rfl ?_
      refine e_L (L' := [some (aR 188), some (aI v1), some (aI v2), some (aI v3), some (aI (334 + (3 * v3)))]) (st' := [aR 188, aI (v2 - 1), aR 207]) (show decode (mC 260) 44 = .ok (.aload_n 0, 1) by decide +kernel) rfl (by show (if 188 = 0 then none else some (_, _)) = _; rw [if_neg (by decide)]) ?_
      refine e_getR (w := 207) (show decode (mC 260) 45 = .ok (.getfield 89, 3) by decide +kernel) (show pl 12 89 = some (0, 12, 45, 0) by decide +kernel) (by decide) (sh_ok hG (by decide +kernel)) (sh_rf hG (by decide +kernel)) ?_
      refine e_L (L' := [some (aR 188), some (aI v1), some (aI v2), some (aI v3), some (aI (334 + (3 * v3)))]) (st' := [aI v2, aR 207, aI (v2 - 1), aR 207]) (show decode (mC 260) 48 = .ok (.iload_n 2, 1) by decide +kernel) rfl rfl ?_
      refine e_P (st' := [aI 1, aI v2, aR 207, aI (v2 - 1), aR 207]) (show decode (mC 260) 49 = .ok (.iconst 1, 1) by decide +kernel) rfl rfl rfl ?_
      refine e_P (st' := [aI (v2 - 1), aR 207, aI (v2 - 1), aR 207]) (show decode (mC 260) 50 = .ok (.isub, 1) by decide +kernel) rfl rfl rfl ?_
      refine e_baldx (n := 45) (show decode (mC 260) 51 = .ok (.baload, 1) by decide +kernel) (Or.inr (sh_ok hG (by decide +kernel))) (sh_ln hG (by decide +kernel)) (by decide) (s24 p1 p2) (s25 p1 p2) ex9 ?_
      refine e_ne1 (t := 59) (show decode (mC 260) 52 = .ok (.ifCond .ne 7, 3) by decide +kernel) (by decide) (s27 p1 p2) (fun p3 => ?_) (fun p3 => ?_)
      · refine e_P (st' := [aI 0, aI (v2 - 1), aR 207]) (show decode (mC 260) 59 = .ok (.iconst 0, 1) by decide +kernel) rfl rfl rfl ?_
        refine e_bast (ki := 23) (n := 45) (show decode (mC 260) 60 = .ok (.bastore, 1) by decide +kernel) (sh_ok hG (by decide +kernel)) (by decide) (sh_ln hG (by decide +kernel)) (by decide) (s24 p1 p2) (s25 p1 p2) ?_
        refine e_go (t := 206) (show decode (mC 260) 61 = .ok (.goto 145, 3) by decide +kernel) (by decide) ?_
        exact T_le hQ (leS (leS (leS (leS (leN leE))))) (k28 p1 p2 p3)
      · refine e_P (st' := [aI 1, aI (v2 - 1), aR 207]) (show decode (mC 260) 55 = .ok (.iconst 1, 1) by decide +kernel) rfl rfl rfl ?_
        refine e_go (t := 60) (show decode (mC 260) 56 = .ok (.goto 4, 3) by decide +kernel) (by decide) ?_
        refine e_bast (ki := 23) (n := 45) (show decode (mC 260) 60 = .ok (.bastore, 1) by decide +kernel) (sh_ok hG (by decide +kernel)) (by decide) (sh_ln hG (by decide +kernel)) (by decide) (s24 p1 p2) (s25 p1 p2) ?_
        refine e_go (t := 206) (show decode (mC 260) 61 = .ok (.goto 145, 3) by decide +kernel) (by decide) ?_
        exact T_le hQ (leS (leS (leS (leS (leN leE))))) (k29 p1 p2 p3)
/-- SoulOfficeModel.isSaid(I)Z, from 88 -/
theorem b260_88 (hG : Shp G) {v1 v2 v3 v4 x1 x2 x3 x4 x5 : Int} (hQ : ∀ o o' h', q_eqo o o' → Q o h' → Q o' h')
    (s0 : 0 ≤ v4)
    (s1 : v4 < 514)
    (ex1 : c 190 v4 = x1)
    (s3 : -2147483648 ≤ x1 ∧ x1 < 2147483648)
    (s4 : (¬ x1 = 21) → 0 ≤ ((v2 + (-1)) - 1))
    (s5 : (¬ x1 = 21) → ((v2 + (-1)) - 1) < 45)
    (ex2 : c 207 ((v2 + (-1)) - 1) = x2)
    (s7 : (¬ x1 = 21) → -2147483648 ≤ x2 ∧ x2 < 2147483648)
    (k8 : (¬ x1 = 21) → (¬ x2 = 0) → T (d + 1) 260 206 [some (aR 188), some (aI v1), some (aI (v2 + (-1))), some (aI v3), none] [] (G, (q_up c 207 ((v2 + (-1)) - 1) (q_nar 23 1))) Q)
    (s9 : (¬ x1 = 21) → (x2 = 0) → 0 ≤ (v2 + (-1)))
    (s10 : (¬ x1 = 21) → (x2 = 0) → (v2 + (-1)) < 45)
    (ex3 : c 207 (v2 + (-1)) = x3)
    (s12 : (¬ x1 = 21) → (x2 = 0) → -2147483648 ≤ x3 ∧ x3 < 2147483648)
    (k13 : (¬ x1 = 21) → (x2 = 0) → (x3 = 0) → T (d + 1) 260 206 [some (aR 188), some (aI v1), some (aI (v2 + (-1))), some (aI v3), none] [] (G, (q_up c 207 ((v2 + (-1)) - 1) (q_nar 23 0))) Q)
    (k14 : (¬ x1 = 21) → (x2 = 0) → (¬ x3 = 0) → T (d + 1) 260 206 [some (aR 188), some (aI v1), some (aI (v2 + (-1))), some (aI v3), none] [] (G, (q_up c 207 ((v2 + (-1)) - 1) (q_nar 23 1))) Q)
    (s15 : (x1 = 21) → 0 ≤ ((v2 + (-1)) - 1))
    (s16 : (x1 = 21) → ((v2 + (-1)) - 1) < 45)
    (ex4 : c 207 ((v2 + (-1)) - 1) = x4)
    (s18 : (x1 = 21) → -2147483648 ≤ x4 ∧ x4 < 2147483648)
    (k19 : (x1 = 21) → (x4 = 0) → T (d + 1) 260 206 [some (aR 188), some (aI v1), some (aI (v2 + (-1))), some (aI v3), none] [] (G, (q_up c 207 ((v2 + (-1)) - 1) (q_nar 23 0))) Q)
    (s20 : (x1 = 21) → (¬ x4 = 0) → 0 ≤ (v2 + (-1)))
    (s21 : (x1 = 21) → (¬ x4 = 0) → (v2 + (-1)) < 45)
    (ex5 : c 207 (v2 + (-1)) = x5)
    (s23 : (x1 = 21) → (¬ x4 = 0) → -2147483648 ≤ x5 ∧ x5 < 2147483648)
    (k24 : (x1 = 21) → (¬ x4 = 0) → (x5 = 0) → T (d + 1) 260 206 [some (aR 188), some (aI v1), some (aI (v2 + (-1))), some (aI v3), none] [] (G, (q_up c 207 ((v2 + (-1)) - 1) (q_nar 23 0))) Q)
    (k25 : (x1 = 21) → (¬ x4 = 0) → (¬ x5 = 0) → T (d + 1) 260 206 [some (aR 188), some (aI v1), some (aI (v2 + (-1))), some (aI v3), none] [] (G, (q_up c 207 ((v2 + (-1)) - 1) (q_nar 23 1))) Q) :
    T (d + 1) 260 88 [some (aR 188), some (aI v1), some (aI v2), some (aI v3), some (aI v4)] [] (G, c) Q := by
  refine e_L (L' := [some (aR 188), some (aI v1), some (aI (v2 + (-1))), some (aI v3), some (aI v4)]) (st' := []) (show decode (mC 260) 88 = .ok (.iinc 2 (-1), 3) by decide +kernel) rfl rfl ?_
  refine e_L (L' := [some (aR 188), some (aI v1), some (aI (v2 + (-1))), some (aI v3), some (aI v4)]) (st' := [aR 188]) (show decode (mC 260) 91 = .ok (.aload_n 0, 1) by decide +kernel) rfl (by show (if 188 = 0 then none else some (_, _)) = _; rw [if_neg (by decide)]) ?_
  refine e_getR (w := 207) (show decode (mC 260) 92 = .ok (.getfield 89, 3) by decide +kernel) (show pl 12 89 = some (0, 12, 45, 0) by decide +kernel) (by decide) (sh_ok hG (by decide +kernel)) (sh_rf hG (by decide +kernel)) ?_
  refine e_L (L' := [some (aR 188), some (aI v1), some (aI (v2 + (-1))), some (aI v3), some (aI v4)]) (st' := [aI (v2 + (-1)), aR 207]) (show decode (mC 260) 95 = .ok (.iload_n 2, 1) by decide +kernel) rfl rfl ?_
  refine e_P (st' := [aI 1, aI (v2 + (-1)), aR 207]) (show decode (mC 260) 96 = .ok (.iconst 1, 1) by decide +kernel) rfl rfl rfl ?_
  refine e_P (st' := [aI ((v2 + (-1)) - 1), aR 207]) (show decode (mC 260) 97 = .ok (.isub, 1) by decide +kernel) rfl rfl rfl ?_
  refine e_L (L' := [some (aR 188), some (aI v1), some (aI (v2 + (-1))), some (aI v3), some (aI v4)]) (st' := [aR 188, aI ((v2 + (-1)) - 1), aR 207]) (show decode (mC 260) 98 = .ok (.aload_n 0, 1) by decide +kernel) rfl (by show (if 188 = 0 then none else some (_, _)) = _; rw [if_neg (by decide)]) ?_
  refine e_getR (w := 190) (show decode (mC 260) 99 = .ok (.getfield 33, 3) by decide +kernel) (show pl 12 33 = some (0, 12, 6, 0) by decide +kernel) (by decide) (sh_ok hG (by decide +kernel)) (sh_rf hG (by decide +kernel)) ?_
  refine e_L (L' := [some (aR 188), some (aI v1), some (aI (v2 + (-1))), some (aI v3), some (aI v4)]) (st' := [aI v4, aR 190, aI ((v2 + (-1)) - 1), aR 207]) (show decode (mC 260) 102 = .ok (.iload 4, 2) by decide +kernel) rfl rfl ?_
  refine e_ialdx (n := 514) (show decode (mC 260) 104 = .ok (.iaload, 1) by decide +kernel) (sh_ok hG (by decide +kernel)) (sh_ln hG (by decide +kernel)) (by decide) s0 s1 ex1 ?_
  refine e_P (st' := [aI 21, aI x1, aI ((v2 + (-1)) - 1), aR 207]) (show decode (mC 260) 105 = .ok (.bipush 21, 2) by decide +kernel) rfl rfl rfl ?_
  refine e_ne2 (t := 138) (show decode (mC 260) 107 = .ok (.if_icmp .ne 31, 3) by decide +kernel) (by decide) s3 (by decide) (fun p1 => ?_) (fun p1 => ?_)
  · refine e_L (L' := [some (aR 188), some (aI v1), some (aI (v2 + (-1))), some (aI v3), some (aI v4)]) (st' := [aR 188, aI ((v2 + (-1)) - 1), aR 207]) (show decode (mC 260) 138 = .ok (.aload_n 0, 1) by decide +kernel) rfl (by show (if 188 = 0 then none else some (_, _)) = _; rw [if_neg (by decide)]) ?_
    refine e_getR (w := 207) (show decode (mC 260) 139 = .ok (.getfield 89, 3) by decide +kernel) (show pl 12 89 = some (0, 12, 45, 0) by decide +kernel) (by decide) (sh_ok hG (by decide +kernel)) (sh_rf hG (by decide +kernel)) ?_
    refine e_L (L' := [some (aR 188), some (aI v1), some (aI (v2 + (-1))), some (aI v3), some (aI v4)]) (st' := [aI (v2 + (-1)), aR 207, aI ((v2 + (-1)) - 1), aR 207]) (show decode (mC 260) 142 = .ok (.iload_n 2, 1) by decide +kernel) rfl rfl ?_
    refine e_P (st' := [aI 1, aI (v2 + (-1)), aR 207, aI ((v2 + (-1)) - 1), aR 207]) (show decode (mC 260) 143 = .ok (.iconst 1, 1) by decide +kernel) rfl rfl rfl ?_
    refine e_P (st' := [aI ((v2 + (-1)) - 1), aR 207, aI ((v2 + (-1)) - 1), aR 207]) (show decode (mC 260) 144 = .ok (.isub, 1) by decide +kernel) rfl rfl rfl ?_
    refine e_baldx (n := 45) (show decode (mC 260) 145 = .ok (.baload, 1) by decide +kernel) (Or.inr (sh_ok hG (by decide +kernel))) (sh_ln hG (by decide +kernel)) (by decide) (s4 p1) (s5 p1) ex2 ?_
    refine e_ne1 (t := 158) (show decode (mC 260) 146 = .ok (.ifCond .ne 12, 3) by decide +kernel) (by decide) (s7 p1) (fun p2 => ?_) (fun p2 => ?_)
    · refine e_P (st' := [aI 1, aI ((v2 + (-1)) - 1), aR 207]) (show decode (mC 260) 158 = .ok (.iconst 1, 1) by decide +kernel) rfl rfl rfl ?_
      refine e_go (t := 163) (show decode (mC 260) 159 = .ok (.goto 4, 3) by decide +kernel) (by decide) ?_
      refine e_bast (ki := 23) (n := 45) (show decode (mC 260) 163 = .ok (.bastore, 1) by decide +kernel) (sh_ok hG (by decide +kernel)) (by decide) (sh_ln hG (by decide +kernel)) (by decide) (s4 p1) (s5 p1) ?_
      refine e_go (t := 206) (show decode (mC 260) 164 = .ok (.goto 42, 3) by decide +kernel) (by decide) ?_
      exact T_le hQ (leS (leS (leS (leS (leN leE))))) (k8 p1 p2)
    · refine e_L (L' := [some (aR 188), some (aI v1), some (aI (v2 + (-1))), some (aI v3), some (aI v4)]) (st' := [aR 188, aI ((v2 + (-1)) - 1), aR 207]) (show decode (mC 260) 149 = .ok (.aload_n 0, 1) by decide +kernel) rfl (by show (if 188 = 0 then none else some (_, _)) = _; rw [if_neg (by decide)]) ?_
      refine e_getR (w := 207) (show decode (mC 260) 150 = .ok (.getfield 89, 3) by decide +kernel) (show pl 12 89 = some (0, 12, 45, 0) by decide +kernel) (by decide) (sh_ok hG (by decide +kernel)) (sh_rf hG (by decide +kernel)) ?_
      refine e_L (L' := [some (aR 188), some (aI v1), some (aI (v2 + (-1))), some (aI v3), some (aI v4)]) (st' := [aI (v2 + (-1)), aR 207, aI ((v2 + (-1)) - 1), aR 207]) (show decode (mC 260) 153 = .ok (.iload_n 2, 1) by decide +kernel) rfl rfl ?_
      refine e_baldx (n := 45) (show decode (mC 260) 154 = .ok (.baload, 1) by decide +kernel) (Or.inr (sh_ok hG (by decide +kernel))) (sh_ln hG (by decide +kernel)) (by decide) (s9 p1 p2) (s10 p1 p2) ex3 ?_
      refine e_eq1 (t := 162) (show decode (mC 260) 155 = .ok (.ifCond .eq 7, 3) by decide +kernel) (by decide) (s12 p1 p2) (fun p3 => ?_) (fun p3 => ?_)
      · refine e_P (st' := [aI 0, aI ((v2 + (-1)) - 1), aR 207]) (show decode (mC 260) 162 = .ok (.iconst 0, 1) by decide +kernel) rfl rfl rfl ?_
        refine e_bast (ki := 23) (n := 45) (show decode (mC 260) 163 = .ok (.bastore, 1) by decide +kernel) (sh_ok hG (by decide +kernel)) (by decide) (sh_ln hG (by decide +kernel)) (by decide) (s4 p1) (s5 p1) ?_
        refine e_go (t := 206) (show decode (mC 260) 164 = .ok (.goto 42, 3) by decide +kernel) (by decide) ?_
        exact T_le hQ (leS (leS (leS (leS (leN leE))))) (k13 p1 p2 p3)
      · refine e_P (st' := [aI 1, aI ((v2 + (-1)) - 1), aR 207]) (show decode (mC 260) 158 = .ok (.iconst 1, 1) by decide +kernel) rfl rfl rfl ?_
        refine e_go (t := 163) (show decode (mC 260) 159 = .ok (.goto 4, 3) by decide +kernel) (by decide) ?_
        refine e_bast (ki := 23) (n := 45) (show decode (mC 260) 163 = .ok (.bastore, 1) by decide +kernel) (sh_ok hG (by decide +kernel)) (by decide) (sh_ln hG (by decide +kernel)) (by decide) (s4 p1) (s5 p1) ?_
        refine e_go (t := 206) (show decode (mC 260) 164 = .ok (.goto 42, 3) by decide +kernel) (by decide) ?_
        exact T_le hQ (leS (leS (leS (leS (leN leE))))) (k14 p1 p2 p3)
  · refine e_L (L' := [some (aR 188), some (aI v1), some (aI (v2 + (-1))), some (aI v3), some (aI v4)]) (st' := [aR 188, aI ((v2 + (-1)) - 1), aR 207]) (show decode (mC 260) 110 = .ok (.aload_n 0, 1) by decide +kernel) rfl (by show (if 188 = 0 then none else some (_, _)) = _; rw [if_neg (by decide)]) ?_
    refine e_getR (w := 207) (show decode (mC 260) 111 = .ok (.getfield 89, 3) by decide +kernel) (show pl 12 89 = some (0, 12, 45, 0) by decide +kernel) (by decide) (sh_ok hG (by decide +kernel)) (sh_rf hG (by decide +kernel)) ?_
    refine e_L (L' := [some (aR 188), some (aI v1), some (aI (v2 + (-1))), some (aI v3), some (aI v4)]) (st' := [aI (v2 + (-1)), aR 207, aI ((v2 + (-1)) - 1), aR 207]) (show decode (mC 260) 114 = .ok (.iload_n 2, 1) by decide +kernel) rfl rfl ?_
    refine e_P (st' := [aI 1, aI (v2 + (-1)), aR 207, aI ((v2 + (-1)) - 1), aR 207]) (show decode (mC 260) 115 = .ok (.iconst 1, 1) by decide +kernel) rfl rfl rfl ?_
    refine e_P (st' := [aI ((v2 + (-1)) - 1), aR 207, aI ((v2 + (-1)) - 1), aR 207]) (show decode (mC 260) 116 = .ok (.isub, 1) by decide +kernel) rfl rfl rfl ?_
    refine e_baldx (n := 45) (show decode (mC 260) 117 = .ok (.baload, 1) by decide +kernel) (Or.inr (sh_ok hG (by decide +kernel))) (sh_ln hG (by decide +kernel)) (by decide) (s15 p1) (s16 p1) ex4 ?_
    refine e_eq1 (t := 134) (show decode (mC 260) 118 = .ok (.ifCond .eq 16, 3) by decide +kernel) (by decide) (s18 p1) (fun p2 => ?_) (fun p2 => ?_)
    · refine e_P (st' := [aI 0, aI ((v2 + (-1)) - 1), aR 207]) (show decode (mC 260) 134 = .ok (.iconst 0, 1) by decide +kernel) rfl rfl rfl ?_
      refine e_go (t := 163) (show decode (mC 260) 135 = .ok (.goto 28, 3) by decide +kernel) (by decide) ?_
      refine e_bast (ki := 23) (n := 45) (show decode (mC 260) 163 = .ok (.bastore, 1) by decide +kernel) (sh_ok hG (by decide +kernel)) (by decide) (sh_ln hG (by decide +kernel)) (by decide) (s15 p1) (s16 p1) ?_
      refine e_go (t := 206) (show decode (mC 260) 164 = .ok (.goto 42, 3) by decide +kernel) (by decide) ?_
      exact T_le hQ (leS (leS (leS (leS (leN leE))))) (k19 p1 p2)
    · refine e_L (L' := [some (aR 188), some (aI v1), some (aI (v2 + (-1))), some (aI v3), some (aI v4)]) (st' := [aR 188, aI ((v2 + (-1)) - 1), aR 207]) (show decode (mC 260) 121 = .ok (.aload_n 0, 1) by decide +kernel) rfl (by show (if 188 = 0 then none else some (_, _)) = _; rw [if_neg (by decide)]) ?_
      refine e_getR (w := 207) (show decode (mC 260) 122 = .ok (.getfield 89, 3) by decide +kernel) (show pl 12 89 = some (0, 12, 45, 0) by decide +kernel) (by decide) (sh_ok hG (by decide +kernel)) (sh_rf hG (by decide +kernel)) ?_
      refine e_L (L' := [some (aR 188), some (aI v1), some (aI (v2 + (-1))), some (aI v3), some (aI v4)]) (st' := [aI (v2 + (-1)), aR 207, aI ((v2 + (-1)) - 1), aR 207]) (show decode (mC 260) 125 = .ok (.iload_n 2, 1) by decide +kernel) rfl rfl ?_
      refine e_baldx (n := 45) (show decode (mC 260) 126 = .ok (.baload, 1) by decide +kernel) (Or.inr (sh_ok hG (by decide +kernel))) (sh_ln hG (by decide +kernel)) (by decide) (s20 p1 p2) (s21 p1 p2) ex5 ?_
      refine e_eq1 (t := 134) (show decode (mC 260) 127 = .ok (.ifCond .eq 7, 3) by decide +kernel) (by decide) (s23 p1 p2) (fun p3 => ?_) (fun p3 => ?_)
      · refine e_P (st' := [aI 0, aI ((v2 + (-1)) - 1), aR 207]) (show decode (mC 260) 134 = .ok (.iconst 0, 1) by decide +kernel) rfl rfl rfl ?_
        refine e_go (t := 163) (show decode (mC 260) 135 = .ok (.goto 28, 3) by decide +kernel) (by decide) ?_
        refine e_bast (ki := 23) (n := 45) (show decode (mC 260) 163 = .ok (.bastore, 1) by decide +kernel) (sh_ok hG (by decide +kernel)) (by decide) (sh_ln hG (by decide +kernel)) (by decide) (s15 p1) (s16 p1) ?_
        refine e_go (t := 206) (show decode (mC 260) 164 = .ok (.goto 42, 3) by decide +kernel) (by decide) ?_
        exact T_le hQ (leS (leS (leS (leS (leN leE))))) (k24 p1 p2 p3)
      · refine e_P (st' := [aI 1, aI ((v2 + (-1)) - 1), aR 207]) (show decode (mC 260) 130 = .ok (.iconst 1, 1) by decide +kernel) rfl rfl rfl ?_
        refine e_go (t := 163) (show decode (mC 260) 131 = .ok (.goto 32, 3) by decide +kernel) (by decide) ?_
        refine e_bast (ki := 23) (n := 45) (show decode (mC 260) 163 = .ok (.bastore, 1) by decide +kernel) (sh_ok hG (by decide +kernel)) (by decide) (sh_ln hG (by decide +kernel)) (by decide) (s15 p1) (s16 p1) ?_
        refine e_go (t := 206) (show decode (mC 260) 164 = .ok (.goto 42, 3) by decide +kernel) (by decide) ?_
        exact T_le hQ (leS (leS (leS (leS (leN leE))))) (k25 p1 p2 p3)
/-- SoulOfficeModel.isSaid(I)Z, from 202 -/
theorem b260_202 (hG : Shp G) {v1 v2 v3 u1 u2 : Int}
    (s0 : 0 ≤ u1)
    (s1 : u1 < 45)
    (k2 : T (d + 1) 260 206 [some (aR 188), some (aI v1), some (aI (v2 + 1)), some (aI v3), none] [] (G, (q_up c 207 u1 (q_nar 23 u2))) Q) :
    T (d + 1) 260 202 [some (aR 188), some (aI v1), some (aI v2), some (aI v3), none] [aI u2, aI u1, aR 207] (G, c) Q := by
  refine e_bast (ki := 23) (n := 45) (show decode (mC 260) 202 = .ok (.bastore, 1) by decide +kernel) (sh_ok hG (by decide +kernel)) (by decide) (sh_ln hG (by decide +kernel)) (by decide) s0 s1 ?_
  refine e_L (L' := [some (aR 188), some (aI v1), some (aI (v2 + 1)), some (aI v3), none]) (st' := []) (show decode (mC 260) 203 = .ok (.iinc 2 1, 3) by decide +kernel) rfl rfl ?_
  exact k2
/-- SoulOfficeModel.isSaid(I)Z, from 206 -/
theorem b260_206 (hG : Shp G) {v1 v2 v3 : Int}
    (k0 : T (d + 1) 260 4 [some (aR 188), some (aI v1), some (aI v2), some (aI (v3 + 1)), none] [] (G, c) Q) :
    T (d + 1) 260 206 [some (aR 188), some (aI v1), some (aI v2), some (aI v3), none] [] (G, c) Q := by
  refine e_L (L' := [some (aR 188), some (aI v1), some (aI v2), some (aI (v3 + 1)), none]) (st' := []) (show decode (mC 260) 206 = .ok (.iinc 3 1, 3) by decide +kernel) rfl rfl ?_
  refine e_go (t := 4) (show decode (mC 260) 209 = .ok (.goto (-205), 3) by decide +kernel) (by decide) ?_
  exact k0
/-- SoulOfficeModel.said(I)I, from 0 -/
theorem b261_0 (hG : Shp G) {v1 x1 : Int}
    (ex1 : (q_up c 188 0 0) 190 333 = x1)
    (s1 : -2147483648 ≤ x1 ∧ x1 < 2147483648)
    (z2 : (x1 = 0) → Q (.inl (some (aI (-1)))) (G, (q_up c 188 0 0)))
    (s3 : (¬ x1 = 0) → -2147483648 ≤ v1 ∧ v1 < 2147483648)
    (k4 : (¬ x1 = 0) → ((-1) ≤ v1) → T (d + 1) 261 27 [some (aR 188), some (aI v1), some (aI 0), some (aI 0)] [] (G, (q_up c 188 0 0)) Q)
    (z5 : (¬ x1 = 0) → (v1 < (-1)) → Q (.inl (some (aI (-1)))) (G, (q_up c 188 0 0))) :
    T (d + 1) 261 0 [some (aR 188), some (aI v1), none, none] [] (G, c) Q := by
  refine e_L (L' := [some (aR 188), some (aI v1), none, none]) (st' := [aR 188]) (show decode (mC 261) 0 = .ok (.aload_n 0, 1) by decide +kernel) rfl (by show (if 188 = 0 then none else some (_, _)) = _; rw [if_neg (by decide)]) ?_
  refine e_P (st' := [aI 0, aR 188]) (show decode (mC 261) 1 = .ok (.iconst 0, 1) by decide +kernel) rfl rfl rfl ?_
  refine e_putI (show decode (mC 261) 2 = .ok (.putfield 1, 3) by decide +kernel) (show pl 12 1 = some (0, 12, 0, 0) by decide +kernel) (by decide) (sh_ok hG (by decide +kernel)) ?_
  refine e_L (L' := [some (aR 188), some (aI v1), none, none]) (st' := [aR 188]) (show decode (mC 261) 5 = .ok (.aload_n 0, 1) by decide +kernel) rfl (by show (if 188 = 0 then none else some (_, _)) = _; rw [if_neg (by decide)]) ?_
  refine e_getR (w := 190) (show decode (mC 261) 6 = .ok (.getfield 33, 3) by decide +kernel) (show pl 12 33 = some (0, 12, 6, 0) by decide +kernel) (by decide) (sh_ok hG (by decide +kernel)) (sh_rf hG (by decide +kernel)) ?_
  refine e_P (st' := [aI 333, aR 190]) (show decode (mC 261) 9 = .ok (.sipush 333, 3) by decide +kernel) rfl rfl rfl ?_
  refine e_ialdx (n := 514) (show decode (mC 261) 12 = .ok (.iaload, 1) by decide +kernel) (sh_ok hG (by decide +kernel)) (sh_ln hG (by decide +kernel)) (by decide) (by decide) (by decide) ex1 ?_
  refine e_eq1 (t := 21) (show decode (mC 261) 13 = .ok (.ifCond .eq 8, 3) by decide +kernel) (by decide) s1 (fun p1 => ?_) (fun p1 => ?_)
  · refine e_P (st' := [aI (-1)]) (show decode (mC 261) 21 = .ok (.iconst (-1), 1) by decide +kernel) rfl rfl rfl ?_
    exact e_iret (show decode (mC 261) 22 = .ok (.ireturn, 1) by decide +kernel) rfl (z2 p1)
  · refine e_L (L' := [some (aR 188), some (aI v1), none, none]) (st' := [aI v1]) (show decode (mC 261) 16 = .ok (.iload_n 1, 1) by decide +kernel) rfl rfl ?_
    refine e_P (st' := [aI (-1), aI v1]) (show decode (mC 261) 17 = .ok (.iconst (-1), 1) by decide +kernel) rfl rfl rfl ?_
    refine e_ge2 (t := 23) (show decode (mC 261) 18 = .ok (.if_icmp .ge 5, 3) by decide +kernel) (by decide) (s3 p1) (by decide) (fun p2 => ?_) (fun p2 => ?_)
    · refine e_P (st' := [aI 0]) (show decode (mC 261) 23 = .ok (.iconst 0, 1) by decide +kernel) rfl rfl rfl ?_
      refine e_L (L' := [some (aR 188), some (aI v1), some (aI 0), none]) (st' := []) (show decode (mC 261) 24 = .ok (.istore_n 2, 1) by decide +kernel) rfl rfl ?_
      refine e_P (st' := [aI 0]) (show decode (mC 261) 25 = .ok (.iconst 0, 1) by decide +kernel) rfl rfl rfl ?_
      refine e_L (L' := [some (aR 188), some (aI v1), some (aI 0), some (aI 0)]) (st' := []) (show decode (mC 261) 26 = .ok (.istore_n 3, 1) by decide +kernel) rfl rfl ?_
      exact (k4 p1 p2)
    · refine e_P (st' := [aI (-1)]) (show decode (mC 261) 21 = .ok (.iconst (-1), 1) by decide +kernel) rfl rfl rfl ?_
      exact e_iret (show decode (mC 261) 22 = .ok (.ireturn, 1) by decide +kernel) rfl (z5 p1 p2)
/-- SoulOfficeModel.said(I)I, from 27 -/
theorem b261_27 (hG : Shp G) {v1 v2 v3 x1 : Int}
    (ex1 : c 190 1 = x1)
    (s1 : -2147483648 ≤ v3 ∧ v3 < 2147483648)
    (s2 : -2147483648 ≤ x1 ∧ x1 < 2147483648)
    (s3 : (x1 ≤ v3) → -2147483648 ≤ v1 ∧ v1 < 2147483648)
    (z4 : (x1 ≤ v3) → (¬ v1 = (-1)) → Q (.inl (some (aI (-1)))) (G, c))
    (z5 : (x1 ≤ v3) → (v1 = (-1)) → Q (.inl (some (aI v2))) (G, c))
    (m6 : (v3 < x1) → TM d 260 [aR 188, aI v3] (G, c) (fun r h' => T (d + 1) 261 42 [some (aR 188), some (aI v1), some (aI v2), some (aI v3)] (r.toList ++ []) h' Q)) :
    T (d + 1) 261 27 [some (aR 188), some (aI v1), some (aI v2), some (aI v3)] [] (G, c) Q := by
  refine e_L (L' := [some (aR 188), some (aI v1), some (aI v2), some (aI v3)]) (st' := [aI v3]) (show decode (mC 261) 27 = .ok (.iload_n 3, 1) by decide +kernel) rfl rfl ?_
  refine e_L (L' := [some (aR 188), some (aI v1), some (aI v2), some (aI v3)]) (st' := [aR 188, aI v3]) (show decode (mC 261) 28 = .ok (.aload_n 0, 1) by decide +kernel) rfl (by show (if 188 = 0 then none else some (_, _)) = _; rw [if_neg (by decide)]) ?_
  refine e_getR (w := 190) (show decode (mC 261) 29 = .ok (.getfield 33, 3) by decide +kernel) (show pl 12 33 = some (0, 12, 6, 0) by decide +kernel) (by decide) (sh_ok hG (by decide +kernel)) (sh_rf hG (by decide +kernel)) ?_
  refine e_P (st' := [aI 1, aR 190, aI v3]) (show decode (mC 261) 32 = .ok (.iconst 1, 1) by decide +kernel) rfl rfl rfl ?_
  refine e_ialdx (n := 514) (show decode (mC 261) 33 = .ok (.iaload, 1) by decide +kernel) (sh_ok hG (by decide +kernel)) (sh_ln hG (by decide +kernel)) (by decide) (by decide) (by decide) ex1 ?_
  refine e_ge2 (t := 64) (show decode (mC 261) 34 = .ok (.if_icmp .ge 30, 3) by decide +kernel) (by decide) s1 s2 (fun p1 => ?_) (fun p1 => ?_)
  · refine e_L (L' := [some (aR 188), some (aI v1), some (aI v2), some (aI v3)]) (st' := [aI v1]) (show decode (mC 261) 64 = .ok (.iload_n 1, 1) by decide +kernel) rfl rfl ?_
    refine e_P (st' := [aI (-1), aI v1]) (show decode (mC 261) 65 = .ok (.iconst (-1), 1) by decide +kernel) rfl rfl rfl ?_
    refine e_ne2 (t := 73) (show decode (mC 261) 66 = .ok (.if_icmp .ne 7, 3) by decide +kernel) (by decide) (s3 p1) (by decide) (fun p2 => ?_) (fun p2 => ?_)
    · refine e_P (st' := [aI (-1)]) (show decode (mC 261) 73 = .ok (.iconst (-1), 1) by decide +kernel) rfl rfl rfl ?_
      exact e_iret (show decode (mC 261) 74 = .ok (.ireturn, 1) by decide +kernel) rfl (z4 p1 p2)
    · refine e_L (L' := [some (aR 188), some (aI v1), some (aI v2), some (aI v3)]) (st' := [aI v2]) (show decode (mC 261) 69 = .ok (.iload_n 2, 1) by decide +kernel) rfl rfl ?_
      refine e_go (t := 74) (show decode (mC 261) 70 = .ok (.goto 4, 3) by decide +kernel) (by decide) ?_
      exact e_iret (show decode (mC 261) 74 = .ok (.ireturn, 1) by decide +kernel) rfl (z5 p1 p2)
  · refine e_L (L' := [some (aR 188), some (aI v1), some (aI v2), some (aI v3)]) (st' := [aR 188]) (show decode (mC 261) 37 = .ok (.aload_n 0, 1) by decide +kernel) rfl (by show (if 188 = 0 then none else some (_, _)) = _; rw [if_neg (by decide)]) ?_
    refine e_L (L' := [some (aR 188), some (aI v1), some (aI v2), some (aI v3)]) (st' := [aI v3, aR 188]) (show decode (mC 261) 38 = .ok (.iload_n 3, 1) by decide +kernel) rfl rfl ?_
    exact e_V (as := [aR 188, aI v3]) (rest := []) (show decode (mC 261) 39 = .ok (.invokevirtual 416, 3) by decide +kernel) (by decide +kernel) (show (decide ((2 : Nat) = mA 260) && decide (260 < q_law)) = true by decide +kernel) rfl (show (0 : Nat) ≤ 8 by decide) (show (2 : Nat) ≤ mL 260 by decide +kernel) rfl (sh_ok hG (by decide +kernel)) (m6 p1)
/-- SoulOfficeModel.said(I)I, from 42 -/
theorem b261_42 (hG : Shp G) {v1 v2 v3 u0 : Int}
    (s0 : -2147483648 ≤ u0 ∧ u0 < 2147483648)
    (s1 : (¬ u0 = 0) → -2147483648 ≤ v2 ∧ v2 < 2147483648)
    (s2 : (¬ u0 = 0) → -2147483648 ≤ v1 ∧ v1 < 2147483648)
    (k3 : (¬ u0 = 0) → (¬ v2 = v1) → T (d + 1) 261 27 [some (aR 188), some (aI v1), some (aI (v2 + 1)), some (aI (v3 + 1))] [] (G, c) Q)
    (z4 : (¬ u0 = 0) → (v2 = v1) → Q (.inl (some (aI v3))) (G, c))
    (k5 : (u0 = 0) → T (d + 1) 261 27 [some (aR 188), some (aI v1), some (aI v2), some (aI (v3 + 1))] [] (G, c) Q) :
    T (d + 1) 261 42 [some (aR 188), some (aI v1), some (aI v2), some (aI v3)] [aI u0] (G, c) Q := by
  refine e_ne1 (t := 48) (show decode (mC 261) 42 = .ok (.ifCond .ne 6, 3) by decide +kernel) (by decide) s0 (fun p1 => ?_) (fun p1 => ?_)
  · refine e_L (L' := [some (aR 188), some (aI v1), some (aI v2), some (aI v3)]) (st' := [aI v2]) (show decode (mC 261) 48 = .ok (.iload_n 2, 1) by decide +kernel) rfl rfl ?_
    refine e_L (L' := [some (aR 188), some (aI v1), some (aI v2), some (aI v3)]) (st' := [aI v1, aI v2]) (show decode (mC 261) 49 = .ok (.iload_n 1, 1) by decide +kernel) rfl rfl ?_
    refine e_ne2 (t := 55) (show decode (mC 261) 50 = .ok (.if_icmp .ne 5, 3) by decide +kernel) (by decide) (s1 p1) (s2 p1) (fun p2 => ?_) (fun p2 => ?_)
    · refine e_L (L' := [some (aR 188), some (aI v1), some (aI (v2 + 1)), some (aI v3)]) (st' := []) (show decode (mC 261) 55 = .ok (.iinc 2 1, 3) by decide +kernel) rfl rfl ?_
      refine e_L (L' := [some (aR 188), some (aI v1), some (aI (v2 + 1)), some (aI (v3 + 1))]) (st' := []) (show decode (mC 261) 58 = .ok (.iinc 3 1, 3) by decide +kernel) rfl rfl ?_
      refine e_go (t := 27) (show decode (mC 261) 61 = .ok (.goto (-34), 3) by decide +kernel) (by decide) ?_
      exact (k3 p1 p2)
    · refine e_L (L' := [some (aR 188), some (aI v1), some (aI v2), some (aI v3)]) (st' := [aI v3]) (show decode (mC 261) 53 = .ok (.iload_n 3, 1) by decide +kernel) rfl rfl ?_
      exact e_iret (show decode (mC 261) 54 = .ok (.ireturn, 1) by decide +kernel) rfl (z4 p1 p2)
  · refine e_go (t := 58) (show decode (mC 261) 45 = .ok (.goto 13, 3) by decide +kernel) (by decide) ?_
    refine e_L (L' := [some (aR 188), some (aI v1), some (aI v2), some (aI (v3 + 1))]) (st' := []) (show decode (mC 261) 58 = .ok (.iinc 3 1, 3) by decide +kernel) rfl rfl ?_
    refine e_go (t := 27) (show decode (mC 261) 61 = .ok (.goto (-34), 3) by decide +kernel) (by decide) ?_
    exact (k5 p1)
/-- SoulOfficeModel.image(I)Z, from 0 -/
theorem b262_0 (hG : Shp G) {v1 : Int}
    (m0 : TM d 164 [aI v1, aI 0, aI 1] (G, (q_up c 188 0 0)) (fun r h' => T (d + 1) 262 11 [some (aR 188), some (aI v1), none] (r.toList ++ []) h' Q)) :
    T (d + 1) 262 0 [some (aR 188), some (aI v1), none] [] (G, c) Q := by
  refine e_L (L' := [some (aR 188), some (aI v1), none]) (st' := [aR 188]) (show decode (mC 262) 0 = .ok (.aload_n 0, 1) by decide +kernel) rfl (by show (if 188 = 0 then none else some (_, _)) = _; rw [if_neg (by decide)]) ?_
  refine e_P (st' := [aI 0, aR 188]) (show decode (mC 262) 1 = .ok (.iconst 0, 1) by decide +kernel) rfl rfl rfl ?_
  refine e_putI (show decode (mC 262) 2 = .ok (.putfield 1, 3) by decide +kernel) (show pl 12 1 = some (0, 12, 0, 0) by decide +kernel) (by decide) (sh_ok hG (by decide +kernel)) ?_
  refine e_L (L' := [some (aR 188), some (aI v1), none]) (st' := [aI v1]) (show decode (mC 262) 5 = .ok (.iload_n 1, 1) by decide +kernel) rfl rfl ?_
  refine e_P (st' := [aI 0, aI v1]) (show decode (mC 262) 6 = .ok (.iconst 0, 1) by decide +kernel) rfl rfl rfl ?_
  refine e_P (st' := [aI 1, aI 0, aI v1]) (show decode (mC 262) 7 = .ok (.iconst 1, 1) by decide +kernel) rfl rfl rfl ?_
  exact e_S (as := [aI v1, aI 0, aI 1]) (rest := []) (show decode (mC 262) 8 = .ok (.invokestatic 184, 3) by decide +kernel) (by decide +kernel) (show (decide ((3 : Nat) = mA 164) && decide (164 < q_law)) = true by decide +kernel) rfl (show (0 : Nat) ≤ 8 by decide) (show (3 : Nat) ≤ mL 164 by decide +kernel) m0
/-- SoulOfficeModel.image(I)Z, from 11 -/
theorem b262_11 (hG : Shp G) {v1 u0 : Int}
    (s0 : -2147483648 ≤ u0 ∧ u0 < 2147483648)
    (k1 : (¬ u0 = 0) → T (d + 1) 262 18 [some (aR 188), some (aI v1), some (aI 0)] [] (G, c) Q)
    (z2 : (u0 = 0) → Q (.inl (some (aI 0))) (G, c)) :
    T (d + 1) 262 11 [some (aR 188), some (aI v1), none] [aI u0] (G, c) Q := by
  refine e_ne1 (t := 16) (show decode (mC 262) 11 = .ok (.ifCond .ne 5, 3) by decide +kernel) (by decide) s0 (fun p1 => ?_) (fun p1 => ?_)
  · refine e_P (st' := [aI 0]) (show decode (mC 262) 16 = .ok (.iconst 0, 1) by decide +kernel) rfl rfl rfl ?_
    refine e_L (L' := [some (aR 188), some (aI v1), some (aI 0)]) (st' := []) (show decode (mC 262) 17 = .ok (.istore_n 2, 1) by decide +kernel) rfl rfl ?_
    exact (k1 p1)
  · refine e_P (st' := [aI 0]) (show decode (mC 262) 14 = .ok (.iconst 0, 1) by decide +kernel) rfl rfl rfl ?_
    exact e_zret (show decode (mC 262) 15 = .ok (.ireturn, 1) by decide +kernel) rfl (by decide) (z2 p1)
/-- SoulOfficeModel.image(I)Z, from 18 -/
theorem b262_18 (hG : Shp G) {v1 v2 x1 : Int}
    (s0 : -2147483648 ≤ v2 ∧ v2 < 2147483648)
    (k1 : (514 ≤ v2) → T (d + 1) 262 51 [some (aR 188), some (aI v1), some (aI 0)] [] (G, c) Q)
    (s2 : (v2 < 514) → 0 ≤ v2)
    (s3 : (v2 < 514) → v2 < 514)
    (ex1 : c 190 v2 = x1)
    (s5 : (v2 < 514) → 0 ≤ ((514 * v1) + v2))
    (s6 : (v2 < 514) → ((514 * v1) + v2) < 1028)
    (k7 : (v2 < 514) → T (d + 1) 262 18 [some (aR 188), some (aI v1), some (aI (v2 + 1))] [] (G, (q_up c 208 ((514 * v1) + v2) x1)) Q) :
    T (d + 1) 262 18 [some (aR 188), some (aI v1), some (aI v2)] [] (G, c) Q := by
  refine e_L (L' := [some (aR 188), some (aI v1), some (aI v2)]) (st' := [aI v2]) (show decode (mC 262) 18 = .ok (.iload_n 2, 1) by decide +kernel) rfl rfl ?_
  refine e_P (st' := [aI 514, aI v2]) (show decode (mC 262) 19 = .ok (.sipush 514, 3) by decide +kernel) rfl rfl rfl ?_
  refine e_ge2 (t := 49) (show decode (mC 262) 22 = .ok (.if_icmp .ge 27, 3) by decide +kernel) (by decide) s0 (by decide) (fun p1 => ?_) (fun p1 => ?_)
  · refine e_P (st' := [aI 0]) (show decode (mC 262) 49 = .ok (.iconst 0, 1) by decide +kernel) rfl rfl rfl ?_
    refine e_L (L' := [some (aR 188), some (aI v1), some (aI 0)]) (st' := []) (show decode (mC 262) 50 = .ok (.istore_n 2, 1) by decide +kernel) rfl rfl ?_
    exact (k1 p1)
  · refine e_L (L' := [some (aR 188), some (aI v1), some (aI v2)]) (st' := [aR 188]) (show decode (mC 262) 25 = .ok (.aload_n 0, 1) by decide +kernel) rfl (by show (if 188 = 0 then none else some (_, _)) = _; rw [if_neg (by decide)]) ?_
    refine e_getR (w := 208) (show decode (mC 262) 26 = .ok (.getfield 93, 3) by decide +kernel) (show pl 12 93 = some (0, 12, 46, 0) by decide +kernel) (by decide) (sh_ok hG (by decide +kernel)) (sh_rf hG (by decide +kernel)) ?_
    refine e_P (st' := [aI 514, aR 208]) (show decode (mC 262) 29 = .ok (.sipush 514, 3) by decide +kernel) rfl rfl rfl ?_
    refine e_L (L' := [some (aR 188), some (aI v1), some (aI v2)]) (st' := [aI v1, aI 514, aR 208]) (show decode (mC 262) 32 = .ok (.iload_n 1, 1) by decide +kernel) rfl rfl ?_
    refine e_P (st' := [aI (514 * v1), aR 208]) (show decode (mC 262) 33 = .ok (.imul, 1) by decide +kernel) rfl rfl rfl ?_
    refine e_L (L' := [some (aR 188), some (aI v1), some (aI v2)]) (st' := [aI v2, aI (514 * v1), aR 208]) (show decode (mC 262) 34 = .ok (.iload_n 2, 1) by decide +kernel) rfl rfl ?_
    refine e_P (st' := [aI ((514 * v1) + v2), aR 208]) (show decode (mC 262) 35 = .ok (.iadd, 1) by decide +kernel) rfl rfl rfl ?_
    refine e_L (L' := [some (aR 188), some (aI v1), some (aI v2)]) (st' := [aR 188, aI ((514 * v1) + v2), aR 208]) (show decode (mC 262) 36 = .ok (.aload_n 0, 1) by decide +kernel) rfl (by show (if 188 = 0 then none else some (_, _)) = _; rw [if_neg (by decide)]) ?_
    refine e_getR (w := 190) (show decode (mC 262) 37 = .ok (.getfield 33, 3) by decide +kernel) (show pl 12 33 = some (0, 12, 6, 0) by decide +kernel) (by decide) (sh_ok hG (by decide +kernel)) (sh_rf hG (by decide +kernel)) ?_
    refine e_L (L' := [some (aR 188), some (aI v1), some (aI v2)]) (st' := [aI v2, aR 190, aI ((514 * v1) + v2), aR 208]) (show decode (mC 262) 40 = .ok (.iload_n 2, 1) by decide +kernel) rfl rfl ?_
    refine e_ialdx (n := 514) (show decode (mC 262) 41 = .ok (.iaload, 1) by decide +kernel) (sh_ok hG (by decide +kernel)) (sh_ln hG (by decide +kernel)) (by decide) (s2 p1) (s3 p1) ex1 ?_
    refine e_iast (n := 1028) (show decode (mC 262) 42 = .ok (.iastore, 1) by decide +kernel) (sh_ok hG (by decide +kernel)) (sh_ln hG (by decide +kernel)) (by decide) (s5 p1) (s6 p1) ?_
    refine e_L (L' := [some (aR 188), some (aI v1), some (aI (v2 + 1))]) (st' := []) (show decode (mC 262) 43 = .ok (.iinc 2 1, 3) by decide +kernel) rfl rfl ?_
    refine e_go (t := 18) (show decode (mC 262) 46 = .ok (.goto (-28), 3) by decide +kernel) (by decide) ?_
    exact (k7 p1)
/-- SoulOfficeModel.image(I)Z, from 51 -/
theorem b262_51 (hG : Shp G) {v1 v2 x1 : Int}
    (s0 : -2147483648 ≤ v2 ∧ v2 < 2147483648)
    (s1 : (14 ≤ v2) → 0 ≤ v1)
    (s2 : (14 ≤ v2) → v1 < 2)
    (z3 : (14 ≤ v2) → Q (.inl (some (aI 1))) (G, (q_up c 210 v1 (q_nar 23 1))))
    (s4 : (v2 < 14) → 0 ≤ v2)
    (s5 : (v2 < 14) → v2 < 28)
    (ex1 : c 193 v2 = x1)
    (s7 : (v2 < 14) → 0 ≤ ((14 * v1) + v2))
    (s8 : (v2 < 14) → ((14 * v1) + v2) < 28)
    (k9 : (v2 < 14) → T (d + 1) 262 51 [some (aR 188), some (aI v1), some (aI (v2 + 1))] [] (G, (q_up c 209 ((14 * v1) + v2) x1)) Q) :
    T (d + 1) 262 51 [some (aR 188), some (aI v1), some (aI v2)] [] (G, c) Q := by
  refine e_L (L' := [some (aR 188), some (aI v1), some (aI v2)]) (st' := [aI v2]) (show decode (mC 262) 51 = .ok (.iload_n 2, 1) by decide +kernel) rfl rfl ?_
  refine e_P (st' := [aI 14, aI v2]) (show decode (mC 262) 52 = .ok (.bipush 14, 2) by decide +kernel) rfl rfl rfl ?_
  refine e_ge2 (t := 80) (show decode (mC 262) 54 = .ok (.if_icmp .ge 26, 3) by decide +kernel) (by decide) s0 (by decide) (fun p1 => ?_) (fun p1 => ?_)
  · refine e_L (L' := [some (aR 188), some (aI v1), some (aI v2)]) (st' := [aR 188]) (show decode (mC 262) 80 = .ok (.aload_n 0, 1) by decide +kernel) rfl (by show (if 188 = 0 then none else some (_, _)) = _; rw [if_neg (by decide)]) ?_
    refine e_getR (w := 210) (show decode (mC 262) 81 = .ok (.getfield 99, 3) by decide +kernel) (show pl 12 99 = some (0, 12, 48, 0) by decide +kernel) (by decide) (sh_ok hG (by decide +kernel)) (sh_rf hG (by decide +kernel)) ?_
    refine e_L (L' := [some (aR 188), some (aI v1), some (aI v2)]) (st' := [aI v1, aR 210]) (show decode (mC 262) 84 = .ok (.iload_n 1, 1) by decide +kernel) rfl rfl ?_
    refine e_P (st' := [aI 1, aI v1, aR 210]) (show decode (mC 262) 85 = .ok (.iconst 1, 1) by decide +kernel) rfl rfl rfl ?_
    refine e_bast (ki := 23) (n := 2) (show decode (mC 262) 86 = .ok (.bastore, 1) by decide +kernel) (sh_ok hG (by decide +kernel)) (by decide) (sh_ln hG (by decide +kernel)) (by decide) (s1 p1) (s2 p1) ?_
    refine e_P (st' := [aI 1]) (show decode (mC 262) 87 = .ok (.iconst 1, 1) by decide +kernel) rfl rfl rfl ?_
    exact e_zret (show decode (mC 262) 88 = .ok (.ireturn, 1) by decide +kernel) rfl (by decide) (z3 p1)
  · refine e_L (L' := [some (aR 188), some (aI v1), some (aI v2)]) (st' := [aR 188]) (show decode (mC 262) 57 = .ok (.aload_n 0, 1) by decide +kernel) rfl (by show (if 188 = 0 then none else some (_, _)) = _; rw [if_neg (by decide)]) ?_
    refine e_getR (w := 209) (show decode (mC 262) 58 = .ok (.getfield 96, 3) by decide +kernel) (show pl 12 96 = some (0, 12, 47, 0) by decide +kernel) (by decide) (sh_ok hG (by decide +kernel)) (sh_rf hG (by decide +kernel)) ?_
    refine e_P (st' := [aI 14, aR 209]) (show decode (mC 262) 61 = .ok (.bipush 14, 2) by decide +kernel) rfl rfl rfl ?_
    refine e_L (L' := [some (aR 188), some (aI v1), some (aI v2)]) (st' := [aI v1, aI 14, aR 209]) (show decode (mC 262) 63 = .ok (.iload_n 1, 1) by decide +kernel) rfl rfl ?_
    refine e_P (st' := [aI (14 * v1), aR 209]) (show decode (mC 262) 64 = .ok (.imul, 1) by decide +kernel) rfl rfl rfl ?_
    refine e_L (L' := [some (aR 188), some (aI v1), some (aI v2)]) (st' := [aI v2, aI (14 * v1), aR 209]) (show decode (mC 262) 65 = .ok (.iload_n 2, 1) by decide +kernel) rfl rfl ?_
    refine e_P (st' := [aI ((14 * v1) + v2), aR 209]) (show decode (mC 262) 66 = .ok (.iadd, 1) by decide +kernel) rfl rfl rfl ?_
    refine e_L (L' := [some (aR 188), some (aI v1), some (aI v2)]) (st' := [aR 188, aI ((14 * v1) + v2), aR 209]) (show decode (mC 262) 67 = .ok (.aload_n 0, 1) by decide +kernel) rfl (by show (if 188 = 0 then none else some (_, _)) = _; rw [if_neg (by decide)]) ?_
    refine e_getR (w := 193) (show decode (mC 262) 68 = .ok (.getfield 43, 3) by decide +kernel) (show pl 12 43 = some (0, 12, 9, 0) by decide +kernel) (by decide) (sh_ok hG (by decide +kernel)) (sh_rf hG (by decide +kernel)) ?_
    refine e_L (L' := [some (aR 188), some (aI v1), some (aI v2)]) (st' := [aI v2, aR 193, aI ((14 * v1) + v2), aR 209]) (show decode (mC 262) 71 = .ok (.iload_n 2, 1) by decide +kernel) rfl rfl ?_
    refine e_laldx (n := 28) (show decode (mC 262) 72 = .ok (.laload, 1) by decide +kernel) (sh_ok hG (by decide +kernel)) (sh_ln hG (by decide +kernel)) (by decide) (s4 p1) (s5 p1) ex1 ?_
    refine e_last (n := 28) (show decode (mC 262) 73 = .ok (.lastore, 1) by decide +kernel) (sh_ok hG (by decide +kernel)) (sh_ln hG (by decide +kernel)) (by decide) (s7 p1) (s8 p1) ?_
    refine e_L (L' := [some (aR 188), some (aI v1), some (aI (v2 + 1))]) (st' := []) (show decode (mC 262) 74 = .ok (.iinc 2 1, 3) by decide +kernel) rfl rfl ?_
    refine e_go (t := 51) (show decode (mC 262) 77 = .ok (.goto (-26), 3) by decide +kernel) (by decide) ?_
    exact (k9 p1)
/-- SoulOfficeModel.restore(I)Z, from 0 -/
theorem b263_0 (hG : Shp G) {v1 : Int}
    (m0 : TM d 164 [aI v1, aI 0, aI 1] (G, (q_up c 188 0 0)) (fun r h' => T (d + 1) 263 11 [some (aR 188), some (aI v1), none] (r.toList ++ []) h' Q)) :
    T (d + 1) 263 0 [some (aR 188), some (aI v1), none] [] (G, c) Q := by
  refine e_L (L' := [some (aR 188), some (aI v1), none]) (st' := [aR 188]) (show decode (mC 263) 0 = .ok (.aload_n 0, 1) by decide +kernel) rfl (by show (if 188 = 0 then none else some (_, _)) = _; rw [if_neg (by decide)]) ?_
  refine e_P (st' := [aI 0, aR 188]) (show decode (mC 263) 1 = .ok (.iconst 0, 1) by decide +kernel) rfl rfl rfl ?_
  refine e_putI (show decode (mC 263) 2 = .ok (.putfield 1, 3) by decide +kernel) (show pl 12 1 = some (0, 12, 0, 0) by decide +kernel) (by decide) (sh_ok hG (by decide +kernel)) ?_
  refine e_L (L' := [some (aR 188), some (aI v1), none]) (st' := [aI v1]) (show decode (mC 263) 5 = .ok (.iload_n 1, 1) by decide +kernel) rfl rfl ?_
  refine e_P (st' := [aI 0, aI v1]) (show decode (mC 263) 6 = .ok (.iconst 0, 1) by decide +kernel) rfl rfl rfl ?_
  refine e_P (st' := [aI 1, aI 0, aI v1]) (show decode (mC 263) 7 = .ok (.iconst 1, 1) by decide +kernel) rfl rfl rfl ?_
  exact e_S (as := [aI v1, aI 0, aI 1]) (rest := []) (show decode (mC 263) 8 = .ok (.invokestatic 184, 3) by decide +kernel) (by decide +kernel) (show (decide ((3 : Nat) = mA 164) && decide (164 < q_law)) = true by decide +kernel) rfl (show (0 : Nat) ≤ 8 by decide) (show (3 : Nat) ≤ mL 164 by decide +kernel) m0
/-- SoulOfficeModel.restore(I)Z, from 11 -/
theorem b263_11 (hG : Shp G) {v1 u0 x1 : Int}
    (s0 : -2147483648 ≤ u0 ∧ u0 < 2147483648)
    (z1 : (u0 = 0) → Q (.inl (some (aI 0))) (G, c))
    (s2 : (¬ u0 = 0) → 0 ≤ v1)
    (s3 : (¬ u0 = 0) → v1 < 2)
    (ex1 : c 210 v1 = x1)
    (s5 : (¬ u0 = 0) → -2147483648 ≤ x1 ∧ x1 < 2147483648)
    (k6 : (¬ u0 = 0) → (¬ x1 = 0) → T (d + 1) 263 27 [some (aR 188), some (aI v1), some (aI 0)] [] (G, c) Q)
    (z7 : (¬ u0 = 0) → (x1 = 0) → Q (.inl (some (aI 0))) (G, c)) :
    T (d + 1) 263 11 [some (aR 188), some (aI v1), none] [aI u0] (G, c) Q := by
  refine e_eq1 (t := 23) (show decode (mC 263) 11 = .ok (.ifCond .eq 12, 3) by decide +kernel) (by decide) s0 (fun p1 => ?_) (fun p1 => ?_)
  · refine e_P (st' := [aI 0]) (show decode (mC 263) 23 = .ok (.iconst 0, 1) by decide +kernel) rfl rfl rfl ?_
    exact e_zret (show decode (mC 263) 24 = .ok (.ireturn, 1) by decide +kernel) rfl (by decide) (z1 p1)
  · refine e_L (L' := [some (aR 188), some (aI v1), none]) (st' := [aR 188]) (show decode (mC 263) 14 = .ok (.aload_n 0, 1) by decide +kernel) rfl (by show (if 188 = 0 then none else some (_, _)) = _; rw [if_neg (by decide)]) ?_
    refine e_getR (w := 210) (show decode (mC 263) 15 = .ok (.getfield 99, 3) by decide +kernel) (show pl 12 99 = some (0, 12, 48, 0) by decide +kernel) (by decide) (sh_ok hG (by decide +kernel)) (sh_rf hG (by decide +kernel)) ?_
    refine e_L (L' := [some (aR 188), some (aI v1), none]) (st' := [aI v1, aR 210]) (show decode (mC 263) 18 = .ok (.iload_n 1, 1) by decide +kernel) rfl rfl ?_
    refine e_baldx (n := 2) (show decode (mC 263) 19 = .ok (.baload, 1) by decide +kernel) (Or.inr (sh_ok hG (by decide +kernel))) (sh_ln hG (by decide +kernel)) (by decide) (s2 p1) (s3 p1) ex1 ?_
    refine e_ne1 (t := 25) (show decode (mC 263) 20 = .ok (.ifCond .ne 5, 3) by decide +kernel) (by decide) (s5 p1) (fun p2 => ?_) (fun p2 => ?_)
    · refine e_P (st' := [aI 0]) (show decode (mC 263) 25 = .ok (.iconst 0, 1) by decide +kernel) rfl rfl rfl ?_
      refine e_L (L' := [some (aR 188), some (aI v1), some (aI 0)]) (st' := []) (show decode (mC 263) 26 = .ok (.istore_n 2, 1) by decide +kernel) rfl rfl ?_
      exact (k6 p1 p2)
    · refine e_P (st' := [aI 0]) (show decode (mC 263) 23 = .ok (.iconst 0, 1) by decide +kernel) rfl rfl rfl ?_
      exact e_zret (show decode (mC 263) 24 = .ok (.ireturn, 1) by decide +kernel) rfl (by decide) (z7 p1 p2)
/-- SoulOfficeModel.restore(I)Z, from 27 -/
theorem b263_27 (hG : Shp G) {v1 v2 x1 : Int}
    (s0 : -2147483648 ≤ v2 ∧ v2 < 2147483648)
    (k1 : (514 ≤ v2) → T (d + 1) 263 60 [some (aR 188), some (aI v1), some (aI 0)] [] (G, c) Q)
    (s2 : (v2 < 514) → 0 ≤ ((514 * v1) + v2))
    (s3 : (v2 < 514) → ((514 * v1) + v2) < 1028)
    (ex1 : c 208 ((514 * v1) + v2) = x1)
    (s5 : (v2 < 514) → 0 ≤ v2)
    (s6 : (v2 < 514) → v2 < 514)
    (k7 : (v2 < 514) → T (d + 1) 263 27 [some (aR 188), some (aI v1), some (aI (v2 + 1))] [] (G, (q_up c 190 v2 x1)) Q) :
    T (d + 1) 263 27 [some (aR 188), some (aI v1), some (aI v2)] [] (G, c) Q := by
  refine e_L (L' := [some (aR 188), some (aI v1), some (aI v2)]) (st' := [aI v2]) (show decode (mC 263) 27 = .ok (.iload_n 2, 1) by decide +kernel) rfl rfl ?_
  refine e_P (st' := [aI 514, aI v2]) (show decode (mC 263) 28 = .ok (.sipush 514, 3) by decide +kernel) rfl rfl rfl ?_
  refine e_ge2 (t := 58) (show decode (mC 263) 31 = .ok (.if_icmp .ge 27, 3) by decide +kernel) (by decide) s0 (by decide) (fun p1 => ?_) (fun p1 => ?_)
  · refine e_P (st' := [aI 0]) (show decode (mC 263) 58 = .ok (.iconst 0, 1) by decide +kernel) rfl rfl rfl ?_
    refine e_L (L' := [some (aR 188), some (aI v1), some (aI 0)]) (st' := []) (show decode (mC 263) 59 = .ok (.istore_n 2, 1) by decide +kernel) rfl rfl ?_
    exact (k1 p1)
  · refine e_L (L' := [some (aR 188), some (aI v1), some (aI v2)]) (st' := [aR 188]) (show decode (mC 263) 34 = .ok (.aload_n 0, 1) by decide +kernel) rfl (by show (if 188 = 0 then none else some (_, _)) = _; rw [if_neg (by decide)]) ?_
    refine e_getR (w := 190) (show decode (mC 263) 35 = .ok (.getfield 33, 3) by decide +kernel) (show pl 12 33 = some (0, 12, 6, 0) by decide +kernel) (by decide) (sh_ok hG (by decide +kernel)) (sh_rf hG (by decide +kernel)) ?_
    refine e_L (L' := [some (aR 188), some (aI v1), some (aI v2)]) (st' := [aI v2, aR 190]) (show decode (mC 263) 38 = .ok (.iload_n 2, 1) by decide +kernel) rfl rfl ?_
    refine e_L (L' := [some (aR 188), some (aI v1), some (aI v2)]) (st' := [aR 188, aI v2, aR 190]) (show decode (mC 263) 39 = .ok (.aload_n 0, 1) by decide +kernel) rfl (by show (if 188 = 0 then none else some (_, _)) = _; rw [if_neg (by decide)]) ?_
    refine e_getR (w := 208) (show decode (mC 263) 40 = .ok (.getfield 93, 3) by decide +kernel) (show pl 12 93 = some (0, 12, 46, 0) by decide +kernel) (by decide) (sh_ok hG (by decide +kernel)) (sh_rf hG (by decide +kernel)) ?_
    refine e_P (st' := [aI 514, aR 208, aI v2, aR 190]) (show decode (mC 263) 43 = .ok (.sipush 514, 3) by decide +kernel) rfl rfl rfl ?_
    refine e_L (L' := [some (aR 188), some (aI v1), some (aI v2)]) (st' := [aI v1, aI 514, aR 208, aI v2, aR 190]) (show decode (mC 263) 46 = .ok (.iload_n 1, 1) by decide +kernel) rfl rfl ?_
    refine e_P (st' := [aI (514 * v1), aR 208, aI v2, aR 190]) (show decode (mC 263) 47 = .ok (.imul, 1) by decide +kernel) rfl rfl rfl ?_
    refine e_L (L' := [some (aR 188), some (aI v1), some (aI v2)]) (st' := [aI v2, aI (514 * v1), aR 208, aI v2, aR 190]) (show decode (mC 263) 48 = .ok (.iload_n 2, 1) by decide +kernel) rfl rfl ?_
    refine e_P (st' := [aI ((514 * v1) + v2), aR 208, aI v2, aR 190]) (show decode (mC 263) 49 = .ok (.iadd, 1) by decide +kernel) rfl rfl rfl ?_
    refine e_ialdx (n := 1028) (show decode (mC 263) 50 = .ok (.iaload, 1) by decide +kernel) (sh_ok hG (by decide +kernel)) (sh_ln hG (by decide +kernel)) (by decide) (s2 p1) (s3 p1) ex1 ?_
    refine e_iast (n := 514) (show decode (mC 263) 51 = .ok (.iastore, 1) by decide +kernel) (sh_ok hG (by decide +kernel)) (sh_ln hG (by decide +kernel)) (by decide) (s5 p1) (s6 p1) ?_
    refine e_L (L' := [some (aR 188), some (aI v1), some (aI (v2 + 1))]) (st' := []) (show decode (mC 263) 52 = .ok (.iinc 2 1, 3) by decide +kernel) rfl rfl ?_
    refine e_go (t := 27) (show decode (mC 263) 55 = .ok (.goto (-28), 3) by decide +kernel) (by decide) ?_
    exact (k7 p1)
/-- SoulOfficeModel.restore(I)Z, from 60 -/
theorem b263_60 (hG : Shp G) {v1 v2 x1 : Int}
    (s0 : -2147483648 ≤ v2 ∧ v2 < 2147483648)
    (z1 : (14 ≤ v2) → Q (.inl (some (aI 1))) (G, (q_up c 188 23 0)))
    (s2 : (v2 < 14) → 0 ≤ ((14 * v1) + v2))
    (s3 : (v2 < 14) → ((14 * v1) + v2) < 28)
    (ex1 : c 209 ((14 * v1) + v2) = x1)
    (s5 : (v2 < 14) → 0 ≤ v2)
    (s6 : (v2 < 14) → v2 < 28)
    (k7 : (v2 < 14) → T (d + 1) 263 60 [some (aR 188), some (aI v1), some (aI (v2 + 1))] [] (G, (q_up c 193 v2 x1)) Q) :
    T (d + 1) 263 60 [some (aR 188), some (aI v1), some (aI v2)] [] (G, c) Q := by
  refine e_L (L' := [some (aR 188), some (aI v1), some (aI v2)]) (st' := [aI v2]) (show decode (mC 263) 60 = .ok (.iload_n 2, 1) by decide +kernel) rfl rfl ?_
  refine e_P (st' := [aI 14, aI v2]) (show decode (mC 263) 61 = .ok (.bipush 14, 2) by decide +kernel) rfl rfl rfl ?_
  refine e_ge2 (t := 89) (show decode (mC 263) 63 = .ok (.if_icmp .ge 26, 3) by decide +kernel) (by decide) s0 (by decide) (fun p1 => ?_) (fun p1 => ?_)
  · refine e_L (L' := [some (aR 188), some (aI v1), some (aI v2)]) (st' := [aR 188]) (show decode (mC 263) 89 = .ok (.aload_n 0, 1) by decide +kernel) rfl (by show (if 188 = 0 then none else some (_, _)) = _; rw [if_neg (by decide)]) ?_
    refine e_P (st' := [aI 0, aR 188]) (show decode (mC 263) 90 = .ok (.iconst 0, 1) by decide +kernel) rfl rfl rfl ?_
    refine e_putI (show decode (mC 263) 91 = .ok (.putfield 238, 3) by decide +kernel) (show pl 12 238 = some (0, 12, 23, 0) by decide +kernel) (by decide) (sh_ok hG (by decide +kernel)) ?_
    refine e_P (st' := [aI 1]) (show decode (mC 263) 94 = .ok (.iconst 1, 1) by decide +kernel) rfl rfl rfl ?_
    exact e_zret (show decode (mC 263) 95 = .ok (.ireturn, 1) by decide +kernel) rfl (by decide) (z1 p1)
  · refine e_L (L' := [some (aR 188), some (aI v1), some (aI v2)]) (st' := [aR 188]) (show decode (mC 263) 66 = .ok (.aload_n 0, 1) by decide +kernel) rfl (by show (if 188 = 0 then none else some (_, _)) = _; rw [if_neg (by decide)]) ?_
    refine e_getR (w := 193) (show decode (mC 263) 67 = .ok (.getfield 43, 3) by decide +kernel) (show pl 12 43 = some (0, 12, 9, 0) by decide +kernel) (by decide) (sh_ok hG (by decide +kernel)) (sh_rf hG (by decide +kernel)) ?_
    refine e_L (L' := [some (aR 188), some (aI v1), some (aI v2)]) (st' := [aI v2, aR 193]) (show decode (mC 263) 70 = .ok (.iload_n 2, 1) by decide +kernel) rfl rfl ?_
    refine e_L (L' := [some (aR 188), some (aI v1), some (aI v2)]) (st' := [aR 188, aI v2, aR 193]) (show decode (mC 263) 71 = .ok (.aload_n 0, 1) by decide +kernel) rfl (by show (if 188 = 0 then none else some (_, _)) = _; rw [if_neg (by decide)]) ?_
    refine e_getR (w := 209) (show decode (mC 263) 72 = .ok (.getfield 96, 3) by decide +kernel) (show pl 12 96 = some (0, 12, 47, 0) by decide +kernel) (by decide) (sh_ok hG (by decide +kernel)) (sh_rf hG (by decide +kernel)) ?_
    refine e_P (st' := [aI 14, aR 209, aI v2, aR 193]) (show decode (mC 263) 75 = .ok (.bipush 14, 2) by decide +kernel) rfl rfl rfl ?_
    refine e_L (L' := [some (aR 188), some (aI v1), some (aI v2)]) (st' := [aI v1, aI 14, aR 209, aI v2, aR 193]) (show decode (mC 263) 77 = .ok (.iload_n 1, 1) by decide +kernel) rfl rfl ?_
    refine e_P (st' := [aI (14 * v1), aR 209, aI v2, aR 193]) (show decode (mC 263) 78 = .ok (.imul, 1) by decide +kernel) rfl rfl rfl ?_
    refine e_L (L' := [some (aR 188), some (aI v1), some (aI v2)]) (st' := [aI v2, aI (14 * v1), aR 209, aI v2, aR 193]) (show decode (mC 263) 79 = .ok (.iload_n 2, 1) by decide +kernel) rfl rfl ?_
    refine e_P (st' := [aI ((14 * v1) + v2), aR 209, aI v2, aR 193]) (show decode (mC 263) 80 = .ok (.iadd, 1) by decide +kernel) rfl rfl rfl ?_
    refine e_laldx (n := 28) (show decode (mC 263) 81 = .ok (.laload, 1) by decide +kernel) (sh_ok hG (by decide +kernel)) (sh_ln hG (by decide +kernel)) (by decide) (s2 p1) (s3 p1) ex1 ?_
    refine e_last (n := 28) (show decode (mC 263) 82 = .ok (.lastore, 1) by decide +kernel) (sh_ok hG (by decide +kernel)) (sh_ln hG (by decide +kernel)) (by decide) (s5 p1) (s6 p1) ?_
    refine e_L (L' := [some (aR 188), some (aI v1), some (aI (v2 + 1))]) (st' := []) (show decode (mC 263) 83 = .ok (.iinc 2 1, 3) by decide +kernel) rfl rfl ?_
    refine e_go (t := 60) (show decode (mC 263) 86 = .ok (.goto (-26), 3) by decide +kernel) (by decide) ?_
    exact (k7 p1)
/-- SoulOfficeModel.count(I)I, from 0 -/
theorem b264_0 (hG : Shp G) {v1 x1 : Int}
    (s0 : -2147483648 ≤ v1 ∧ v1 < 2147483648)
    (m1 : (¬ v1 = 3) → TM d 164 [aI v1, aI 0, aI 2] (G, (q_up c 188 0 0)) (fun r h' => T (d + 1) 264 23 [some (aR 188), some (aI v1)] (r.toList ++ []) h' Q))
    (ex1 : (q_up c 188 0 0) 188 2 = x1)
    (z3 : (v1 = 3) → Q (.inl (some (aI x1))) (G, (q_up c 188 0 0))) :
    T (d + 1) 264 0 [some (aR 188), some (aI v1)] [] (G, c) Q := by
  refine e_L (L' := [some (aR 188), some (aI v1)]) (st' := [aR 188]) (show decode (mC 264) 0 = .ok (.aload_n 0, 1) by decide +kernel) rfl (by show (if 188 = 0 then none else some (_, _)) = _; rw [if_neg (by decide)]) ?_
  refine e_P (st' := [aI 0, aR 188]) (show decode (mC 264) 1 = .ok (.iconst 0, 1) by decide +kernel) rfl rfl rfl ?_
  refine e_putI (show decode (mC 264) 2 = .ok (.putfield 1, 3) by decide +kernel) (show pl 12 1 = some (0, 12, 0, 0) by decide +kernel) (by decide) (sh_ok hG (by decide +kernel)) ?_
  refine e_L (L' := [some (aR 188), some (aI v1)]) (st' := [aI v1]) (show decode (mC 264) 5 = .ok (.iload_n 1, 1) by decide +kernel) rfl rfl ?_
  refine e_P (st' := [aI 3, aI v1]) (show decode (mC 264) 6 = .ok (.iconst 3, 1) by decide +kernel) rfl rfl rfl ?_
  refine e_ne2 (t := 17) (show decode (mC 264) 7 = .ok (.if_icmp .ne 10, 3) by decide +kernel) (by decide) s0 (by decide) (fun p1 => ?_) (fun p1 => ?_)
  · refine e_L (L' := [some (aR 188), some (aI v1)]) (st' := [aI v1]) (show decode (mC 264) 17 = .ok (.iload_n 1, 1) by decide +kernel) rfl rfl ?_
    refine e_P (st' := [aI 0, aI v1]) (show decode (mC 264) 18 = .ok (.iconst 0, 1) by decide +kernel) rfl rfl rfl ?_
    refine e_P (st' := [aI 2, aI 0, aI v1]) (show decode (mC 264) 19 = .ok (.iconst 2, 1) by decide +kernel) rfl rfl rfl ?_
    exact e_S (as := [aI v1, aI 0, aI 2]) (rest := []) (show decode (mC 264) 20 = .ok (.invokestatic 184, 3) by decide +kernel) (by decide +kernel) (show (decide ((3 : Nat) = mA 164) && decide (164 < q_law)) = true by decide +kernel) rfl (show (0 : Nat) ≤ 8 by decide) (show (3 : Nat) ≤ mL 164 by decide +kernel) (m1 p1)
  · refine e_L (L' := [some (aR 188), some (aI v1)]) (st' := [aR 188]) (show decode (mC 264) 10 = .ok (.aload_n 0, 1) by decide +kernel) rfl (by show (if 188 = 0 then none else some (_, _)) = _; rw [if_neg (by decide)]) ?_
    refine e_getIx (show decode (mC 264) 11 = .ok (.getfield 7, 3) by decide +kernel) (show pl 12 7 = some (0, 12, 2, 0) by decide +kernel) (by decide) (sh_ok hG (by decide +kernel)) ex1 ?_
    refine e_go (t := 36) (show decode (mC 264) 14 = .ok (.goto 22, 3) by decide +kernel) (by decide) ?_
    exact e_iret (show decode (mC 264) 36 = .ok (.ireturn, 1) by decide +kernel) rfl (z3 p1)
/-- SoulOfficeModel.count(I)I, from 23 -/
theorem b264_23 (hG : Shp G) {v1 u0 x1 : Int}
    (s0 : -2147483648 ≤ u0 ∧ u0 < 2147483648)
    (z1 : (u0 = 0) → Q (.inl (some (aI (-1)))) (G, c))
    (s2 : (¬ u0 = 0) → 0 ≤ v1)
    (s3 : (¬ u0 = 0) → v1 < 514)
    (ex1 : c 190 v1 = x1)
    (z5 : (¬ u0 = 0) → Q (.inl (some (aI x1))) (G, c)) :
    T (d + 1) 264 23 [some (aR 188), some (aI v1)] [aI u0] (G, c) Q := by
  refine e_eq1 (t := 35) (show decode (mC 264) 23 = .ok (.ifCond .eq 12, 3) by decide +kernel) (by decide) s0 (fun p1 => ?_) (fun p1 => ?_)
  · refine e_P (st' := [aI (-1)]) (show decode (mC 264) 35 = .ok (.iconst (-1), 1) by decide +kernel) rfl rfl rfl ?_
    exact e_iret (show decode (mC 264) 36 = .ok (.ireturn, 1) by decide +kernel) rfl (z1 p1)
  · refine e_L (L' := [some (aR 188), some (aI v1)]) (st' := [aR 188]) (show decode (mC 264) 26 = .ok (.aload_n 0, 1) by decide +kernel) rfl (by show (if 188 = 0 then none else some (_, _)) = _; rw [if_neg (by decide)]) ?_
    refine e_getR (w := 190) (show decode (mC 264) 27 = .ok (.getfield 33, 3) by decide +kernel) (show pl 12 33 = some (0, 12, 6, 0) by decide +kernel) (by decide) (sh_ok hG (by decide +kernel)) (sh_rf hG (by decide +kernel)) ?_
    refine e_L (L' := [some (aR 188), some (aI v1)]) (st' := [aI v1, aR 190]) (show decode (mC 264) 30 = .ok (.iload_n 1, 1) by decide +kernel) rfl rfl ?_
    refine e_ialdx (n := 514) (show decode (mC 264) 31 = .ok (.iaload, 1) by decide +kernel) (sh_ok hG (by decide +kernel)) (sh_ln hG (by decide +kernel)) (by decide) (s2 p1) (s3 p1) ex1 ?_
    refine e_go (t := 36) (show decode (mC 264) 32 = .ok (.goto 4, 3) by decide +kernel) (by decide) ?_
    exact e_iret (show decode (mC 264) 36 = .ok (.ireturn, 1) by decide +kernel) rfl (z5 p1)
end QB34
