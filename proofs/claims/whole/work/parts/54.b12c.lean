section QB24
variable {d : Nat} {G : GG} {c : CC} {Q : OO → HH → Prop}
/-- SoulOfficeModel.line()Z, from 77 -/
theorem b184_77 (hG : Shp G) {v1 u0 x1 x2 : Int}
    (s0 : -2147483648 ≤ u0 ∧ u0 < 2147483648)
    (ex1 : c 188 18 = x1)
    (s2 : (¬ u0 = 0) → 0 ≤ (9 + v1))
    (s3 : (¬ u0 = 0) → (9 + v1) < 168)
    (ex2 : (q_up c 191 (9 + v1) x1) 191 0 = x2)
    (z5 : (¬ u0 = 0) → Q (.inl (some (aI 1))) (G, (q_up (q_up c 191 (9 + v1) x1) 191 0 (x2 + 1))))
    (z6 : (u0 = 0) → Q (.inl (some (aI 0))) (G, c)) :
    T (d + 1) 184 77 [some (aR 188), some (aI v1), none] [aI u0] (G, c) Q := by
  refine e_ne1 (t := 82) (show decode (mC 184) 77 = .ok (.ifCond .ne 5, 3) by decide +kernel) (by decide) s0 (fun p1 => ?_) (fun p1 => ?_)
  · refine e_L (L' := [some (aR 188), some (aI v1), none]) (st' := [aR 188]) (show decode (mC 184) 82 = .ok (.aload_n 0, 1) by decide +kernel) rfl (by show (if 188 = 0 then none else some (_, _)) = _; rw [if_neg (by decide)]) ?_
    refine e_getR (w := 191) (show decode (mC 184) 83 = .ok (.getfield 37, 3) by decide +kernel) (show pl 12 37 = some (0, 12, 7, 0) by decide +kernel) (by decide) (sh_ok hG (by decide +kernel)) (sh_rf hG (by decide +kernel)) ?_
    refine e_P (st' := [aI 9, aR 191]) (show decode (mC 184) 86 = .ok (.bipush 9, 2) by decide +kernel) rfl rfl rfl ?_
    refine e_L (L' := [some (aR 188), some (aI v1), none]) (st' := [aI v1, aI 9, aR 191]) (show decode (mC 184) 88 = .ok (.iload_n 1, 1) by decide +kernel) rfl rfl ?_
    refine e_P (st' := [aI (9 + v1), aR 191]) (show decode (mC 184) 89 = .ok (.iadd, 1) by decide +kernel) rfl rfl rfl ?_
    refine e_L (L' := [some (aR 188), some (aI v1), none]) (st' := [aR 188, aI (9 + v1), aR 191]) (show decode (mC 184) 90 = .ok (.aload_n 0, 1) by decide +kernel) rfl (by show (if 188 = 0 then none else some (_, _)) = _; rw [if_neg (by decide)]) ?_
    refine e_getIx (show decode (mC 184) 91 = .ok (.getfield 188, 3) by decide +kernel) (show pl 12 188 = some (0, 12, 18, 0) by decide +kernel) (by decide) (sh_ok hG (by decide +kernel)) ex1 ?_
    refine e_iast (n := 168) (show decode (mC 184) 94 = .ok (.iastore, 1) by decide +kernel) (sh_ok hG (by decide +kernel)) (sh_ln hG (by decide +kernel)) (by decide) (s2 p1) (s3 p1) ?_
    refine e_L (L' := [some (aR 188), some (aI v1), none]) (st' := [aR 188]) (show decode (mC 184) 95 = .ok (.aload_n 0, 1) by decide +kernel) rfl (by show (if 188 = 0 then none else some (_, _)) = _; rw [if_neg (by decide)]) ?_
    refine e_getR (w := 191) (show decode (mC 184) 96 = .ok (.getfield 37, 3) by decide +kernel) (show pl 12 37 = some (0, 12, 7, 0) by decide +kernel) (by decide) (sh_ok hG (by decide +kernel)) (sh_rf hG (by decide +kernel)) ?_
    refine e_P (st' := [aI 0, aR 191]) (show decode (mC 184) 99 = .ok (.iconst 0, 1) by decide +kernel) rfl rfl rfl ?_
    refine e_P (st' := [aI 0, aR 191, aI 0, aR 191]) (show decode (mC 184) 100 = .ok (.dup2, 1) by decide +kernel) rfl rfl rfl ?_
    refine e_ialdx (n := 168) (show decode (mC 184) 101 = .ok (.iaload, 1) by decide +kernel) (sh_ok hG (by decide +kernel)) (sh_ln hG (by decide +kernel)) (by decide) (by decide) (by decide) ex2 ?_
    refine e_P (st' := [aI 1, aI x2, aI 0, aR 191]) (show decode (mC 184) 102 = .ok (.iconst 1, 1) by decide +kernel) rfl rfl rfl ?_
    refine e_P (st' := [aI (x2 + 1), aI 0, aR 191]) (show decode (mC 184) 103 = .ok (.iadd, 1) by decide +kernel) rfl rfl rfl ?_
    refine e_iast (n := 168) (show decode (mC 184) 104 = .ok (.iastore, 1) by decide +kernel) (sh_ok hG (by decide +kernel)) (sh_ln hG (by decide +kernel)) (by decide) (by decide) (by decide) ?_
    refine e_P (st' := [aI 1]) (show decode (mC 184) 105 = .ok (.iconst 1, 1) by decide +kernel) rfl rfl rfl ?_
    exact e_zret (show decode (mC 184) 106 = .ok (.ireturn, 1) by decide +kernel) rfl (by decide) (z5 p1)
  · refine e_P (st' := [aI 0]) (show decode (mC 184) 80 = .ok (.iconst 0, 1) by decide +kernel) rfl rfl rfl ?_
    exact e_zret (show decode (mC 184) 81 = .ok (.ireturn, 1) by decide +kernel) rfl (by decide) (z6 p1)
/-- SoulOfficeModel.line()Z, from 114 -/
theorem b184_114 (hG : Shp G) {u0 : Int}
    (s0 : -2147483648 ≤ u0 ∧ u0 < 2147483648)
    (m1 : (u0 = 0) → TM d 174 [aR 188, aL 1936684396] (G, c) (fun r h' => T (d + 1) 184 271 [some (aR 188), none, none] (r.toList ++ []) h' Q))
    (m2 : (¬ u0 = 0) → TM d 172 [aR 188] (G, c) (fun r h' => T (d + 1) 184 121 [some (aR 188), none, none] (r.toList ++ []) h' Q)) :
    T (d + 1) 184 114 [some (aR 188), none, none] [aI u0] (G, c) Q := by
  refine e_eq1 (t := 264) (show decode (mC 184) 114 = .ok (.ifCond .eq 150, 3) by decide +kernel) (by decide) s0 (fun p1 => ?_) (fun p1 => ?_)
  · refine e_L (L' := [some (aR 188), none, none]) (st' := [aR 188]) (show decode (mC 184) 264 = .ok (.aload_n 0, 1) by decide +kernel) rfl (by show (if 188 = 0 then none else some (_, _)) = _; rw [if_neg (by decide)]) ?_
    refine e_ldc2 (show decode (mC 184) 265 = .ok (.ldc2_w 106, 3) by decide +kernel) (show pl 12 106 = some (9, 0, 0, 1936684396) by decide +kernel) ?_
    exact e_V (as := [aR 188, aL 1936684396]) (rest := []) (show decode (mC 184) 268 = .ok (.invokevirtual 203, 3) by decide +kernel) (by decide +kernel) (show (decide ((2 : Nat) = mA 174) && decide (174 < q_law)) = true by decide +kernel) rfl (show (0 : Nat) ≤ 8 by decide) (show (3 : Nat) ≤ mL 174 by decide +kernel) rfl (sh_ok hG (by decide +kernel)) (m1 p1)
  · refine e_L (L' := [some (aR 188), none, none]) (st' := [aR 188]) (show decode (mC 184) 117 = .ok (.aload_n 0, 1) by decide +kernel) rfl (by show (if 188 = 0 then none else some (_, _)) = _; rw [if_neg (by decide)]) ?_
    exact e_V (as := [aR 188]) (rest := []) (show decode (mC 184) 118 = .ok (.invokevirtual 181, 3) by decide +kernel) (by decide +kernel) (show (decide ((1 : Nat) = mA 172) && decide (172 < q_law)) = true by decide +kernel) rfl (show (0 : Nat) ≤ 8 by decide) (show (1 : Nat) ≤ mL 172 by decide +kernel) rfl (sh_ok hG (by decide +kernel)) (m2 p1)
/-- SoulOfficeModel.line()Z, from 121 -/
theorem b184_121 (hG : Shp G)
    (m0 : TM d 182 [aR 188] (G, c) (fun r h' => T (d + 1) 184 125 [some (aR 188), none, none] (r.toList ++ []) h' Q)) :
    T (d + 1) 184 121 [some (aR 188), none, none] [] (G, c) Q := by
  refine e_L (L' := [some (aR 188), none, none]) (st' := [aR 188]) (show decode (mC 184) 121 = .ok (.aload_n 0, 1) by decide +kernel) rfl (by show (if 188 = 0 then none else some (_, _)) = _; rw [if_neg (by decide)]) ?_
  exact e_V (as := [aR 188]) (rest := []) (show decode (mC 184) 122 = .ok (.invokevirtual 213, 3) by decide +kernel) (by decide +kernel) (show (decide ((1 : Nat) = mA 182) && decide (182 < q_law)) = true by decide +kernel) rfl (show (0 : Nat) ≤ 8 by decide) (show (1 : Nat) ≤ mL 182 by decide +kernel) rfl (sh_ok hG (by decide +kernel)) m0
/-- SoulOfficeModel.line()Z, from 125 -/
theorem b184_125 (hG : Shp G) {u0 x1 : Int}
    (s0 : -2147483648 ≤ u0 ∧ u0 < 2147483648)
    (ex1 : c 188 18 = x1)
    (m2 : (¬ u0 = 0) → TM d 172 [aR 188] (G, c) (fun r h' => T (d + 1) 184 139 [some (aR 188), some (aI x1), none] (r.toList ++ []) h' Q))
    (z3 : (u0 = 0) → Q (.inl (some (aI 0))) (G, c)) :
    T (d + 1) 184 125 [some (aR 188), none, none] [aI u0] (G, c) Q := by
  refine e_ne1 (t := 130) (show decode (mC 184) 125 = .ok (.ifCond .ne 5, 3) by decide +kernel) (by decide) s0 (fun p1 => ?_) (fun p1 => ?_)
  · refine e_L (L' := [some (aR 188), none, none]) (st' := [aR 188]) (show decode (mC 184) 130 = .ok (.aload_n 0, 1) by decide +kernel) rfl (by show (if 188 = 0 then none else some (_, _)) = _; rw [if_neg (by decide)]) ?_
    refine e_getIx (show decode (mC 184) 131 = .ok (.getfield 188, 3) by decide +kernel) (show pl 12 188 = some (0, 12, 18, 0) by decide +kernel) (by decide) (sh_ok hG (by decide +kernel)) ex1 ?_
    refine e_L (L' := [some (aR 188), some (aI x1), none]) (st' := []) (show decode (mC 184) 134 = .ok (.istore_n 1, 1) by decide +kernel) rfl rfl ?_
    refine e_L (L' := [some (aR 188), some (aI x1), none]) (st' := [aR 188]) (show decode (mC 184) 135 = .ok (.aload_n 0, 1) by decide +kernel) rfl (by show (if 188 = 0 then none else some (_, _)) = _; rw [if_neg (by decide)]) ?_
    exact e_V (as := [aR 188]) (rest := []) (show decode (mC 184) 136 = .ok (.invokevirtual 181, 3) by decide +kernel) (by decide +kernel) (show (decide ((1 : Nat) = mA 172) && decide (172 < q_law)) = true by decide +kernel) rfl (show (0 : Nat) ≤ 8 by decide) (show (1 : Nat) ≤ mL 172 by decide +kernel) rfl (sh_ok hG (by decide +kernel)) (m2 p1)
  · refine e_P (st' := [aI 0]) (show decode (mC 184) 128 = .ok (.iconst 0, 1) by decide +kernel) rfl rfl rfl ?_
    exact e_zret (show decode (mC 184) 129 = .ok (.ireturn, 1) by decide +kernel) rfl (by decide) (z3 p1)
/-- SoulOfficeModel.line()Z, from 139 -/
theorem b184_139 (hG : Shp G) {v1 : Int}
    (m0 : TM d 182 [aR 188] (G, c) (fun r h' => T (d + 1) 184 143 [some (aR 188), some (aI v1), none] (r.toList ++ []) h' Q)) :
    T (d + 1) 184 139 [some (aR 188), some (aI v1), none] [] (G, c) Q := by
  refine e_L (L' := [some (aR 188), some (aI v1), none]) (st' := [aR 188]) (show decode (mC 184) 139 = .ok (.aload_n 0, 1) by decide +kernel) rfl (by show (if 188 = 0 then none else some (_, _)) = _; rw [if_neg (by decide)]) ?_
  exact e_V (as := [aR 188]) (rest := []) (show decode (mC 184) 140 = .ok (.invokevirtual 213, 3) by decide +kernel) (by decide +kernel) (show (decide ((1 : Nat) = mA 182) && decide (182 < q_law)) = true by decide +kernel) rfl (show (0 : Nat) ≤ 8 by decide) (show (1 : Nat) ≤ mL 182 by decide +kernel) rfl (sh_ok hG (by decide +kernel)) m0
/-- SoulOfficeModel.line()Z, from 143 -/
theorem b184_143 (hG : Shp G) {v1 u0 x1 x2 : Int} (hQ : ∀ o o' h', q_eqo o o' → Q o h' → Q o' h')
    (s0 : -2147483648 ≤ u0 ∧ u0 < 2147483648)
    (ex1 : c 188 18 = x1)
    (s2 : (¬ u0 = 0) → 0 ≤ ((131 + (6 * v1)) + x1))
    (s3 : (¬ u0 = 0) → ((131 + (6 * v1)) + x1) < 168)
    (ex2 : c 191 ((131 + (6 * v1)) + x1) = x2)
    (s5 : (¬ u0 = 0) → -2147483648 ≤ x2 ∧ x2 < 2147483648)
    (s6 : (¬ u0 = 0) → (¬ x2 = 1) → 0 ≤ ((131 + (6 * x1)) + v1))
    (s7 : (¬ u0 = 0) → (¬ x2 = 1) → ((131 + (6 * x1)) + v1) < 168)
    (m8 : (¬ u0 = 0) → (¬ x2 = 1) → TM d 172 [aR 188] (G, (q_up (q_up c 191 ((131 + (6 * v1)) + x1) 1) 191 ((131 + (6 * x1)) + v1) 1)) (fun r h' => T (d + 1) 184 214 [some (aR 188), some (aI v1), some (aI x1)] (r.toList ++ []) h' Q))
    (m9 : (¬ u0 = 0) → (x2 = 1) → TM d 173 [aR 188, aI 3] (G, c) (fun r h' => T (d + 1) 184 177 [none, none, none] (r.toList ++ []) h' Q))
    (z10 : (u0 = 0) → Q (.inl (some (aI 0))) (G, c)) :
    T (d + 1) 184 143 [some (aR 188), some (aI v1), none] [aI u0] (G, c) Q := by
  refine e_ne1 (t := 148) (show decode (mC 184) 143 = .ok (.ifCond .ne 5, 3) by decide +kernel) (by decide) s0 (fun p1 => ?_) (fun p1 => ?_)
  · refine e_L (L' := [some (aR 188), some (aI v1), none]) (st' := [aR 188]) (show decode (mC 184) 148 = .ok (.aload_n 0, 1) by decide +kernel) rfl (by show (if 188 = 0 then none else some (_, _)) = _; rw [if_neg (by decide)]) ?_
    refine e_getIx (show decode (mC 184) 149 = .ok (.getfield 188, 3) by decide +kernel) (show pl 12 188 = some (0, 12, 18, 0) by decide +kernel) (by decide) (sh_ok hG (by decide +kernel)) ex1 ?_
    refine e_L (L' := [some (aR 188), some (aI v1), some (aI x1)]) (st' := []) (show decode (mC 184) 152 = .ok (.istore_n 2, 1) by decide +kernel) rfl rfl ?_
    refine e_L (L' := [some (aR 188), some (aI v1), some (aI x1)]) (st' := [aR 188]) (show decode (mC 184) 153 = .ok (.aload_n 0, 1) by decide +kernel) rfl (by show (if 188 = 0 then none else some (_, _)) = _; rw [if_neg (by decide)]) ?_
    refine e_getR (w := 191) (show decode (mC 184) 154 = .ok (.getfield 37, 3) by decide +kernel) (show pl 12 37 = some (0, 12, 7, 0) by decide +kernel) (by decide) (sh_ok hG (by decide +kernel)) (sh_rf hG (by decide +kernel)) ?_
    refine e_P (st' := [aI 131, aR 191]) (show decode (mC 184) 157 = .ok (.sipush 131, 3) by decide +kernel) rfl rfl rfl ?_
    refine e_P (st' := [aI 6, aI 131, aR 191]) (show decode (mC 184) 160 = .ok (.bipush 6, 2) by decide +kernel) rfl rfl rfl ?_
    refine e_L (L' := [some (aR 188), some (aI v1), some (aI x1)]) (st' := [aI v1, aI 6, aI 131, aR 191]) (show decode (mC 184) 162 = .ok (.iload_n 1, 1) by decide +kernel) rfl rfl ?_
    refine e_P (st' := [aI (6 * v1), aI 131, aR 191]) (show decode (mC 184) 163 = .ok (.imul, 1) by decide +kernel) rfl rfl rfl ?_
    refine e_P (st' := [aI (131 + (6 * v1)), aR 191]) (show decode (mC 184) 164 = .ok (.iadd, 1) by decide +kernel) rfl rfl rfl ?_
    refine e_L (L' := [some (aR 188), some (aI v1), some (aI x1)]) (st' := [aI x1, aI (131 + (6 * v1)), aR 191]) (show decode (mC 184) 165 = .ok (.iload_n 2, 1) by decide +kernel) rfl rfl ?_
    refine e_P (st' := [aI ((131 + (6 * v1)) + x1), aR 191]) (show decode (mC 184) 166 = .ok (.iadd, 1) by decide +kernel) rfl rfl rfl ?_
    refine e_ialdx (n := 168) (show decode (mC 184) 167 = .ok (.iaload, 1) by decide +kernel) (sh_ok hG (by decide +kernel)) (sh_ln hG (by decide +kernel)) (by decide) (s2 p1) (s3 p1) ex2 ?_
    refine e_P (st' := [aI 1, aI x2]) (show decode (mC 184) 168 = .ok (.iconst 1, 1) by decide +kernel) rfl rfl rfl ?_
    refine e_ne2 (t := 178) (show decode (mC 184) 169 = .ok (.if_icmp .ne 9, 3) by decide +kernel) (by decide) (s5 p1) (by decide) (fun p2 => ?_) (fun p2 => ?_)
    · refine e_L (L' := [some (aR 188), some (aI v1), some (aI x1)]) (st' := [aR 188]) (show decode (mC 184) 178 = .ok (.aload_n 0, 1) by decide +kernel) rfl (by show (if 188 = 0 then none else some (_, _)) = _; rw [if_neg (by decide)]) ?_
      refine e_getR (w := 191) (show decode (mC 184) 179 = .ok (.getfield 37, 3) by decide +kernel) (show pl 12 37 = some (0, 12, 7, 0) by decide +kernel) (by decide) (sh_ok hG (by decide +kernel)) (sh_rf hG (by decide +kernel)) ?_
      refine e_P (st' := [aI 131, aR 191]) (show decode (mC 184) 182 = .ok (.sipush 131, 3) by decide +kernel) rfl rfl rfl ?_
      refine e_P (st' := [aI 6, aI 131, aR 191]) (show decode (mC 184) 185 = .ok (.bipush 6, 2) by decide +kernel) rfl rfl rfl ?_
      refine e_L (L' := [some (aR 188), some (aI v1), some (aI x1)]) (st' := [aI v1, aI 6, aI 131, aR 191]) (show decode (mC 184) 187 = .ok (.iload_n 1, 1) by decide +kernel) rfl rfl ?_
      refine e_P (st' := [aI (6 * v1), aI 131, aR 191]) (show decode (mC 184) 188 = .ok (.imul, 1) by decide +kernel) rfl rfl rfl ?_
      refine e_P (st' := [aI (131 + (6 * v1)), aR 191]) (show decode (mC 184) 189 = .ok (.iadd, 1) by decide +kernel) rfl rfl rfl ?_
      refine e_L (L' := [some (aR 188), some (aI v1), some (aI x1)]) (st' := [aI x1, aI (131 + (6 * v1)), aR 191]) (show decode (mC 184) 190 = .ok (.iload_n 2, 1) by decide +kernel) rfl rfl ?_
      refine e_P (st' := [aI ((131 + (6 * v1)) + x1), aR 191]) (show decode (mC 184) 191 = .ok (.iadd, 1) by decide +kernel) rfl rfl rfl ?_
      refine e_P (st' := [aI 1, aI ((131 + (6 * v1)) + x1), aR 191]) (show decode (mC 184) 192 = .ok (.iconst 1, 1) by decide +kernel) rfl rfl rfl ?_
      refine e_iast (n := 168) (show decode (mC 184) 193 = .ok (.iastore, 1) by decide +kernel) (sh_ok hG (by decide +kernel)) (sh_ln hG (by decide +kernel)) (by decide) (s2 p1) (s3 p1) ?_
      refine e_L (L' := [some (aR 188), some (aI v1), some (aI x1)]) (st' := [aR 188]) (show decode (mC 184) 194 = .ok (.aload_n 0, 1) by decide +kernel) rfl (by show (if 188 = 0 then none else some (_, _)) = _; rw [if_neg (by decide)]) ?_
      refine e_getR (w := 191) (show decode (mC 184) 195 = .ok (.getfield 37, 3) by decide +kernel) (show pl 12 37 = some (0, 12, 7, 0) by decide +kernel) (by decide) (sh_ok hG (by decide +kernel)) (sh_rf hG (by decide +kernel)) ?_
      refine e_P (st' := [aI 131, aR 191]) (show decode (mC 184) 198 = .ok (.sipush 131, 3) by decide +kernel) rfl rfl rfl ?_
      refine e_P (st' := [aI 6, aI 131, aR 191]) (show decode (mC 184) 201 = .ok (.bipush 6, 2) by decide +kernel) rfl rfl rfl ?_
      refine e_L (L' := [some (aR 188), some (aI v1), some (aI x1)]) (st' := [aI x1, aI 6, aI 131, aR 191]) (show decode (mC 184) 203 = .ok (.iload_n 2, 1) by decide +kernel) rfl rfl ?_
      refine e_P (st' := [aI (6 * x1), aI 131, aR 191]) (show decode (mC 184) 204 = .ok (.imul, 1) by decide +kernel) rfl rfl rfl ?_
      refine e_P (st' := [aI (131 + (6 * x1)), aR 191]) (show decode (mC 184) 205 = .ok (.iadd, 1) by decide +kernel) rfl rfl rfl ?_
      refine e_L (L' := [some (aR 188), some (aI v1), some (aI x1)]) (st' := [aI v1, aI (131 + (6 * x1)), aR 191]) (show decode (mC 184) 206 = .ok (.iload_n 1, 1) by decide +kernel) rfl rfl ?_
      refine e_P (st' := [aI ((131 + (6 * x1)) + v1), aR 191]) (show decode (mC 184) 207 = .ok (.iadd, 1) by decide +kernel) rfl rfl rfl ?_
      refine e_P (st' := [aI 1, aI ((131 + (6 * x1)) + v1), aR 191]) (show decode (mC 184) 208 = .ok (.iconst 1, 1) by decide +kernel) rfl rfl rfl ?_
      refine e_iast (n := 168) (show decode (mC 184) 209 = .ok (.iastore, 1) by decide +kernel) (sh_ok hG (by decide +kernel)) (sh_ln hG (by decide +kernel)) (by decide) (s6 p1 p2) (s7 p1 p2) ?_
      refine e_L (L' := [some (aR 188), some (aI v1), some (aI x1)]) (st' := [aR 188]) (show decode (mC 184) 210 = .ok (.aload_n 0, 1) by decide +kernel) rfl (by show (if 188 = 0 then none else some (_, _)) = _; rw [if_neg (by decide)]) ?_
      exact e_V (as := [aR 188]) (rest := []) (show decode (mC 184) 211 = .ok (.invokevirtual 181, 3) by decide +kernel) (by decide +kernel) (show (decide ((1 : Nat) = mA 172) && decide (172 < q_law)) = true by decide +kernel) rfl (show (0 : Nat) ≤ 8 by decide) (show (1 : Nat) ≤ mL 172 by decide +kernel) rfl (sh_ok hG (by decide +kernel)) (m8 p1 p2)
    · refine e_L (L' := [some (aR 188), some (aI v1), some (aI x1)]) (st' := [aR 188]) (show decode (mC 184) 172 = .ok (.aload_n 0, 1) by decide +kernel) rfl (by show (if 188 = 0 then none else some (_, _)) = _; rw [if_neg (by decide)]) ?_
      refine e_P (st' := [aI 3, aR 188]) (show decode (mC 184) 173 = .ok (.iconst 3, 1) by decide +kernel) rfl rfl rfl ?_
      exact e_V (as := [aR 188, aI 3]) (rest := []) (show decode (mC 184) 174 = .ok (.invokevirtual 178, 3) by decide +kernel) (by decide +kernel) (show (decide ((2 : Nat) = mA 173) && decide (173 < q_law)) = true by decide +kernel) rfl (show (0 : Nat) ≤ 8 by decide) (show (2 : Nat) ≤ mL 173 by decide +kernel) rfl (sh_ok hG (by decide +kernel)) (tm_le hQ (leN (leN (leN leE))) (m9 p1 p2))
  · refine e_P (st' := [aI 0]) (show decode (mC 184) 146 = .ok (.iconst 0, 1) by decide +kernel) rfl rfl rfl ?_
    exact e_zret (show decode (mC 184) 147 = .ok (.ireturn, 1) by decide +kernel) rfl (by decide) (z10 p1)
/-- SoulOfficeModel.line()Z, from 177 -/
theorem b184_177 (hG : Shp G) {u0 : Int}
    (s0 : u0 = 0 ∨ u0 = 1)
    (z1 : Q (.inl (some (aI u0))) (G, c)) :
    T (d + 1) 184 177 [none, none, none] [aI u0] (G, c) Q := by
  exact e_zret (show decode (mC 184) 177 = .ok (.ireturn, 1) by decide +kernel) rfl s0 z1
/-- SoulOfficeModel.line()Z, from 214 -/
theorem b184_214 (hG : Shp G) {v1 v2 : Int}
    (m0 : TM d 178 [aR 188, aI 0, aI 99] (G, c) (fun r h' => T (d + 1) 184 221 [some (aR 188), some (aI v1), some (aI v2)] (r.toList ++ []) h' Q)) :
    T (d + 1) 184 214 [some (aR 188), some (aI v1), some (aI v2)] [] (G, c) Q := by
  refine e_L (L' := [some (aR 188), some (aI v1), some (aI v2)]) (st' := [aR 188]) (show decode (mC 184) 214 = .ok (.aload_n 0, 1) by decide +kernel) rfl (by show (if 188 = 0 then none else some (_, _)) = _; rw [if_neg (by decide)]) ?_
  refine e_P (st' := [aI 0, aR 188]) (show decode (mC 184) 215 = .ok (.iconst 0, 1) by decide +kernel) rfl rfl rfl ?_
  refine e_P (st' := [aI 99, aI 0, aR 188]) (show decode (mC 184) 216 = .ok (.bipush 99, 2) by decide +kernel) rfl rfl rfl ?_
  exact e_V (as := [aR 188, aI 0, aI 99]) (rest := []) (show decode (mC 184) 218 = .ok (.invokevirtual 210, 3) by decide +kernel) (by decide +kernel) (show (decide ((3 : Nat) = mA 178) && decide (178 < q_law)) = true by decide +kernel) rfl (show (0 : Nat) ≤ 8 by decide) (show (3 : Nat) ≤ mL 178 by decide +kernel) rfl (sh_ok hG (by decide +kernel)) m0
/-- SoulOfficeModel.line()Z, from 221 -/
theorem b184_221 (hG : Shp G) {v1 v2 u0 x1 x2 : Int}
    (s0 : -2147483648 ≤ u0 ∧ u0 < 2147483648)
    (ex1 : c 188 18 = x1)
    (s2 : (¬ u0 = 0) → 0 ≤ ((15 + (6 * v1)) + v2))
    (s3 : (¬ u0 = 0) → ((15 + (6 * v1)) + v2) < 168)
    (ex2 : (q_up c 191 ((15 + (6 * v1)) + v2) x1) 188 18 = x2)
    (s5 : (¬ u0 = 0) → 0 ≤ ((15 + (6 * v2)) + v1))
    (s6 : (¬ u0 = 0) → ((15 + (6 * v2)) + v1) < 168)
    (z7 : (¬ u0 = 0) → Q (.inl (some (aI 1))) (G, (q_up (q_up c 191 ((15 + (6 * v1)) + v2) x1) 191 ((15 + (6 * v2)) + v1) x2)))
    (z8 : (u0 = 0) → Q (.inl (some (aI 0))) (G, c)) :
    T (d + 1) 184 221 [some (aR 188), some (aI v1), some (aI v2)] [aI u0] (G, c) Q := by
  refine e_ne1 (t := 226) (show decode (mC 184) 221 = .ok (.ifCond .ne 5, 3) by decide +kernel) (by decide) s0 (fun p1 => ?_) (fun p1 => ?_)
  · refine e_L (L' := [some (aR 188), some (aI v1), some (aI v2)]) (st' := [aR 188]) (show decode (mC 184) 226 = .ok (.aload_n 0, 1) by decide +kernel) rfl (by show (if 188 = 0 then none else some (_, _)) = _; rw [if_neg (by decide)]) ?_
    refine e_getR (w := 191) (show decode (mC 184) 227 = .ok (.getfield 37, 3) by decide +kernel) (show pl 12 37 = some (0, 12, 7, 0) by decide +kernel) (by decide) (sh_ok hG (by decide +kernel)) (sh_rf hG (by decide +kernel)) ?_
    refine e_P (st' := [aI 15, aR 191]) (show decode (mC 184) 230 = .ok (.bipush 15, 2) by decide +kernel) rfl rfl rfl ?_
    refine e_P (st' := [aI 6, aI 15, aR 191]) (show decode (mC 184) 232 = .ok (.bipush 6, 2) by decide +kernel) rfl rfl rfl ?_
    refine e_L (L' := [some (aR 188), some (aI v1), some (aI v2)]) (st' := [aI v1, aI 6, aI 15, aR 191]) (show decode (mC 184) 234 = .ok (.iload_n 1, 1) by decide +kernel) rfl rfl ?_
    refine e_P (st' := [aI (6 * v1), aI 15, aR 191]) (show decode (mC 184) 235 = .ok (.imul, 1) by decide +kernel) rfl rfl rfl ?_
    refine e_P (st' := [aI (15 + (6 * v1)), aR 191]) (show decode (mC 184) 236 = .ok (.iadd, 1) by decide +kernel) rfl rfl rfl ?_
    refine e_L (L' := [some (aR 188), some (aI v1), some (aI v2)]) (st' := [aI v2, aI (15 + (6 * v1)), aR 191]) (show decode (mC 184) 237 = .ok (.iload_n 2, 1) by decide +kernel) rfl rfl ?_
    refine e_P (st' := [aI ((15 + (6 * v1)) + v2), aR 191]) (show decode (mC 184) 238 = .ok (.iadd, 1) by decide +kernel) rfl rfl rfl ?_
    refine e_L (L' := [some (aR 188), some (aI v1), some (aI v2)]) (st' := [aR 188, aI ((15 + (6 * v1)) + v2), aR 191]) (show decode (mC 184) 239 = .ok (.aload_n 0, 1) by decide +kernel) rfl (by show (if 188 = 0 then none else some (_, _)) = _; rw [if_neg (by decide)]) ?_
    refine e_getIx (show decode (mC 184) 240 = .ok (.getfield 188, 3) by decide +kernel) (show pl 12 188 = some (0, 12, 18, 0) by decide +kernel) (by decide) (sh_ok hG (by decide +kernel)) ex1 ?_
    refine e_iast (n := 168) (show decode (mC 184) 243 = .ok (.iastore, 1) by decide +kernel) (sh_ok hG (by decide +kernel)) (sh_ln hG (by decide +kernel)) (by decide) (s2 p1) (s3 p1) ?_
    refine e_L (L' := [some (aR 188), some (aI v1), some (aI v2)]) (st' := [aR 188]) (show decode (mC 184) 244 = .ok (.aload_n 0, 1) by decide +kernel) rfl (by show (if 188 = 0 then none else some (_, _)) = _; rw [if_neg (by decide)]) ?_
    refine e_getR (w := 191) (show decode (mC 184) 245 = .ok (.getfield 37, 3) by decide +kernel) (show pl 12 37 = some (0, 12, 7, 0) by decide +kernel) (by decide) (sh_ok hG (by decide +kernel)) (sh_rf hG (by decide +kernel)) ?_
    refine e_P (st' := [aI 15, aR 191]) (show decode (mC 184) 248 = .ok (.bipush 15, 2) by decide +kernel) rfl rfl rfl ?_
    refine e_P (st' := [aI 6, aI 15, aR 191]) (show decode (mC 184) 250 = .ok (.bipush 6, 2) by decide +kernel) rfl rfl rfl ?_
    refine e_L (L' := [some (aR 188), some (aI v1), some (aI v2)]) (st' := [aI v2, aI 6, aI 15, aR 191]) (show decode (mC 184) 252 = .ok (.iload_n 2, 1) by decide +kernel) rfl rfl ?_
    refine e_P (st' := [aI (6 * v2), aI 15, aR 191]) (show decode (mC 184) 253 = .ok (.imul, 1) by decide +kernel) rfl rfl rfl ?_
    refine e_P (st' := [aI (15 + (6 * v2)), aR 191]) (show decode (mC 184) 254 = .ok (.iadd, 1) by decide +kernel) rfl rfl rfl ?_
    refine e_L (L' := [some (aR 188), some (aI v1), some (aI v2)]) (st' := [aI v1, aI (15 + (6 * v2)), aR 191]) (show decode (mC 184) 255 = .ok (.iload_n 1, 1) by decide +kernel) rfl rfl ?_
    refine e_P (st' := [aI ((15 + (6 * v2)) + v1), aR 191]) (show decode (mC 184) 256 = .ok (.iadd, 1) by decide +kernel) rfl rfl rfl ?_
    refine e_L (L' := [some (aR 188), some (aI v1), some (aI v2)]) (st' := [aR 188, aI ((15 + (6 * v2)) + v1), aR 191]) (show decode (mC 184) 257 = .ok (.aload_n 0, 1) by decide +kernel) rfl (by show (if 188 = 0 then none else some (_, _)) = _; rw [if_neg (by decide)]) ?_
    refine e_getIx (show decode (mC 184) 258 = .ok (.getfield 188, 3) by decide +kernel) (show pl 12 188 = some (0, 12, 18, 0) by decide +kernel) (by decide) (sh_ok hG (by decide +kernel)) ex2 ?_
    refine e_iast (n := 168) (show decode (mC 184) 261 = .ok (.iastore, 1) by decide +kernel) (sh_ok hG (by decide +kernel)) (sh_ln hG (by decide +kernel)) (by decide) (s5 p1) (s6 p1) ?_
    refine e_P (st' := [aI 1]) (show decode (mC 184) 262 = .ok (.iconst 1, 1) by decide +kernel) rfl rfl rfl ?_
    exact e_zret (show decode (mC 184) 263 = .ok (.ireturn, 1) by decide +kernel) rfl (by decide) (z7 p1)
  · refine e_P (st' := [aI 0]) (show decode (mC 184) 224 = .ok (.iconst 0, 1) by decide +kernel) rfl rfl rfl ?_
    exact e_zret (show decode (mC 184) 225 = .ok (.ireturn, 1) by decide +kernel) rfl (by decide) (z8 p1)
/-- SoulOfficeModel.line()Z, from 271 -/
theorem b184_271 (hG : Shp G) {u0 x1 : Int} (hQ : ∀ o o' h', q_eqo o o' → Q o h' → Q o' h')
    (s0 : -2147483648 ≤ u0 ∧ u0 < 2147483648)
    (m1 : (u0 = 0) → TM d 174 [aR 188, aL 1869507705] (G, c) (fun r h' => T (d + 1) 184 332 [some (aR 188), none, none] (r.toList ++ []) h' Q))
    (ex1 : c 191 1 = x1)
    (s3 : (¬ u0 = 0) → -2147483648 ≤ x1 ∧ x1 < 2147483648)
    (m4 : (¬ u0 = 0) → (¬ x1 = 8) → TM d 172 [aR 188] (G, c) (fun r h' => T (d + 1) 184 295 [some (aR 188), none, none] (r.toList ++ []) h' Q))
    (m5 : (¬ u0 = 0) → (x1 = 8) → TM d 173 [aR 188, aI 4] (G, c) (fun r h' => T (d + 1) 184 290 [none, none, none] (r.toList ++ []) h' Q)) :
    T (d + 1) 184 271 [some (aR 188), none, none] [aI u0] (G, c) Q := by
  refine e_eq1 (t := 325) (show decode (mC 184) 271 = .ok (.ifCond .eq 54, 3) by decide +kernel) (by decide) s0 (fun p1 => ?_) (fun p1 => ?_)
  · refine e_L (L' := [some (aR 188), none, none]) (st' := [aR 188]) (show decode (mC 184) 325 = .ok (.aload_n 0, 1) by decide +kernel) rfl (by show (if 188 = 0 then none else some (_, _)) = _; rw [if_neg (by decide)]) ?_
    refine e_ldc2 (show decode (mC 184) 326 = .ok (.ldc2_w 108, 3) by decide +kernel) (show pl 12 108 = some (9, 0, 0, 1869507705) by decide +kernel) ?_
    exact e_V (as := [aR 188, aL 1869507705]) (rest := []) (show decode (mC 184) 329 = .ok (.invokevirtual 203, 3) by decide +kernel) (by decide +kernel) (show (decide ((2 : Nat) = mA 174) && decide (174 < q_law)) = true by decide +kernel) rfl (show (0 : Nat) ≤ 8 by decide) (show (3 : Nat) ≤ mL 174 by decide +kernel) rfl (sh_ok hG (by decide +kernel)) (m1 p1)
  · refine e_L (L' := [some (aR 188), none, none]) (st' := [aR 188]) (show decode (mC 184) 274 = .ok (.aload_n 0, 1) by decide +kernel) rfl (by show (if 188 = 0 then none else some (_, _)) = _; rw [if_neg (by decide)]) ?_
    refine e_getR (w := 191) (show decode (mC 184) 275 = .ok (.getfield 37, 3) by decide +kernel) (show pl 12 37 = some (0, 12, 7, 0) by decide +kernel) (by decide) (sh_ok hG (by decide +kernel)) (sh_rf hG (by decide +kernel)) ?_
    refine e_P (st' := [aI 1, aR 191]) (show decode (mC 184) 278 = .ok (.iconst 1, 1) by decide +kernel) rfl rfl rfl ?_
    refine e_ialdx (n := 168) (show decode (mC 184) 279 = .ok (.iaload, 1) by decide +kernel) (sh_ok hG (by decide +kernel)) (sh_ln hG (by decide +kernel)) (by decide) (by decide) (by decide) ex1 ?_
    refine e_P (st' := [aI 8, aI x1]) (show decode (mC 184) 280 = .ok (.bipush 8, 2) by decide +kernel) rfl rfl rfl ?_
    refine e_ne2 (t := 291) (show decode (mC 184) 282 = .ok (.if_icmp .ne 9, 3) by decide +kernel) (by decide) (s3 p1) (by decide) (fun p2 => ?_) (fun p2 => ?_)
    · refine e_L (L' := [some (aR 188), none, none]) (st' := [aR 188]) (show decode (mC 184) 291 = .ok (.aload_n 0, 1) by decide +kernel) rfl (by show (if 188 = 0 then none else some (_, _)) = _; rw [if_neg (by decide)]) ?_
      exact e_V (as := [aR 188]) (rest := []) (show decode (mC 184) 292 = .ok (.invokevirtual 181, 3) by decide +kernel) (by decide +kernel) (show (decide ((1 : Nat) = mA 172) && decide (172 < q_law)) = true by decide +kernel) rfl (show (0 : Nat) ≤ 8 by decide) (show (1 : Nat) ≤ mL 172 by decide +kernel) rfl (sh_ok hG (by decide +kernel)) (m4 p1 p2)
    · refine e_L (L' := [some (aR 188), none, none]) (st' := [aR 188]) (show decode (mC 184) 285 = .ok (.aload_n 0, 1) by decide +kernel) rfl (by show (if 188 = 0 then none else some (_, _)) = _; rw [if_neg (by decide)]) ?_
      refine e_P (st' := [aI 4, aR 188]) (show decode (mC 184) 286 = .ok (.iconst 4, 1) by decide +kernel) rfl rfl rfl ?_
      exact e_V (as := [aR 188, aI 4]) (rest := []) (show decode (mC 184) 287 = .ok (.invokevirtual 178, 3) by decide +kernel) (by decide +kernel) (show (decide ((2 : Nat) = mA 173) && decide (173 < q_law)) = true by decide +kernel) rfl (show (0 : Nat) ≤ 8 by decide) (show (2 : Nat) ≤ mL 173 by decide +kernel) rfl (sh_ok hG (by decide +kernel)) (tm_le hQ (leN (leS (leS leE))) (m5 p1 p2))
/-- SoulOfficeModel.line()Z, from 290 -/
theorem b184_290 (hG : Shp G) {u0 : Int}
    (s0 : u0 = 0 ∨ u0 = 1)
    (z1 : Q (.inl (some (aI u0))) (G, c)) :
    T (d + 1) 184 290 [none, none, none] [aI u0] (G, c) Q := by
  exact e_zret (show decode (mC 184) 290 = .ok (.ireturn, 1) by decide +kernel) rfl s0 z1
/-- SoulOfficeModel.line()Z, from 295 -/
theorem b184_295 (hG : Shp G) {x1 : Int}
    (ex1 : c 191 1 = x1)
    (m1 : TM d 180 [aR 188, aI (20 + x1)] (G, c) (fun r h' => T (d + 1) 184 308 [some (aR 188), none, none] (r.toList ++ []) h' Q)) :
    T (d + 1) 184 295 [some (aR 188), none, none] [] (G, c) Q := by
  refine e_L (L' := [some (aR 188), none, none]) (st' := [aR 188]) (show decode (mC 184) 295 = .ok (.aload_n 0, 1) by decide +kernel) rfl (by show (if 188 = 0 then none else some (_, _)) = _; rw [if_neg (by decide)]) ?_
  refine e_P (st' := [aI 20, aR 188]) (show decode (mC 184) 296 = .ok (.bipush 20, 2) by decide +kernel) rfl rfl rfl ?_
  refine e_L (L' := [some (aR 188), none, none]) (st' := [aR 188, aI 20, aR 188]) (show decode (mC 184) 298 = .ok (.aload_n 0, 1) by decide +kernel) rfl (by show (if 188 = 0 then none else some (_, _)) = _; rw [if_neg (by decide)]) ?_
  refine e_getR (w := 191) (show decode (mC 184) 299 = .ok (.getfield 37, 3) by decide +kernel) (show pl 12 37 = some (0, 12, 7, 0) by decide +kernel) (by decide) (sh_ok hG (by decide +kernel)) (sh_rf hG (by decide +kernel)) ?_
  refine e_P (st' := [aI 1, aR 191, aI 20, aR 188]) (show decode (mC 184) 302 = .ok (.iconst 1, 1) by decide +kernel) rfl rfl rfl ?_
  refine e_ialdx (n := 168) (show decode (mC 184) 303 = .ok (.iaload, 1) by decide +kernel) (sh_ok hG (by decide +kernel)) (sh_ln hG (by decide +kernel)) (by decide) (by decide) (by decide) ex1 ?_
  refine e_P (st' := [aI (20 + x1), aR 188]) (show decode (mC 184) 304 = .ok (.iadd, 1) by decide +kernel) rfl rfl rfl ?_
  exact e_V (as := [aR 188, aI (20 + x1)]) (rest := []) (show decode (mC 184) 305 = .ok (.invokevirtual 207, 3) by decide +kernel) (by decide +kernel) (show (decide ((2 : Nat) = mA 180) && decide (180 < q_law)) = true by decide +kernel) rfl (show (0 : Nat) ≤ 8 by decide) (show (2 : Nat) ≤ mL 180 by decide +kernel) rfl (sh_ok hG (by decide +kernel)) m1
/-- SoulOfficeModel.line()Z, from 308 -/
theorem b184_308 (hG : Shp G) {u0 x1 : Int}
    (s0 : -2147483648 ≤ u0 ∧ u0 < 2147483648)
    (ex1 : c 191 1 = x1)
    (z2 : (¬ u0 = 0) → Q (.inl (some (aI 1))) (G, (q_up c 191 1 (x1 + 1))))
    (z3 : (u0 = 0) → Q (.inl (some (aI 0))) (G, c)) :
    T (d + 1) 184 308 [some (aR 188), none, none] [aI u0] (G, c) Q := by
  refine e_ne1 (t := 313) (show decode (mC 184) 308 = .ok (.ifCond .ne 5, 3) by decide +kernel) (by decide) s0 (fun p1 => ?_) (fun p1 => ?_)
  · refine e_L (L' := [some (aR 188), none, none]) (st' := [aR 188]) (show decode (mC 184) 313 = .ok (.aload_n 0, 1) by decide +kernel) rfl (by show (if 188 = 0 then none else some (_, _)) = _; rw [if_neg (by decide)]) ?_
    refine e_getR (w := 191) (show decode (mC 184) 314 = .ok (.getfield 37, 3) by decide +kernel) (show pl 12 37 = some (0, 12, 7, 0) by decide +kernel) (by decide) (sh_ok hG (by decide +kernel)) (sh_rf hG (by decide +kernel)) ?_
    refine e_P (st' := [aI 1, aR 191]) (show decode (mC 184) 317 = .ok (.iconst 1, 1) by decide +kernel) rfl rfl rfl ?_
    refine e_P (st' := [aI 1, aR 191, aI 1, aR 191]) (show decode (mC 184) 318 = .ok (.dup2, 1) by decide +kernel) rfl rfl rfl ?_
    refine e_ialdx (n := 168) (show decode (mC 184) 319 = .ok (.iaload, 1) by decide +kernel) (sh_ok hG (by decide +kernel)) (sh_ln hG (by decide +kernel)) (by decide) (by decide) (by decide) ex1 ?_
    refine e_P (st' := [aI 1, aI x1, aI 1, aR 191]) (show decode (mC 184) 320 = .ok (.iconst 1, 1) by decide +kernel) rfl rfl rfl ?_
    refine e_P (st' := [aI (x1 + 1), aI 1, aR 191]) (show decode (mC 184) 321 = .ok (.iadd, 1) by decide +kernel) rfl rfl rfl ?_
    refine e_iast (n := 168) (show decode (mC 184) 322 = .ok (.iastore, 1) by decide +kernel) (sh_ok hG (by decide +kernel)) (sh_ln hG (by decide +kernel)) (by decide) (by decide) (by decide) ?_
    refine e_P (st' := [aI 1]) (show decode (mC 184) 323 = .ok (.iconst 1, 1) by decide +kernel) rfl rfl rfl ?_
    exact e_zret (show decode (mC 184) 324 = .ok (.ireturn, 1) by decide +kernel) rfl (by decide) (z2 p1)
  · refine e_P (st' := [aI 0]) (show decode (mC 184) 311 = .ok (.iconst 0, 1) by decide +kernel) rfl rfl rfl ?_
    exact e_zret (show decode (mC 184) 312 = .ok (.ireturn, 1) by decide +kernel) rfl (by decide) (z3 p1)
/-- SoulOfficeModel.line()Z, from 332 -/
theorem b184_332 (hG : Shp G) {u0 : Int}
    (s0 : -2147483648 ≤ u0 ∧ u0 < 2147483648)
    (m1 : (u0 = 0) → TM d 174 [aR 188, aL 2003399528] (G, c) (fun r h' => T (d + 1) 184 481 [some (aR 188), none, none] (r.toList ++ []) h' Q))
    (m2 : (¬ u0 = 0) → TM d 172 [aR 188] (G, c) (fun r h' => T (d + 1) 184 339 [some (aR 188), none, none] (r.toList ++ []) h' Q)) :
    T (d + 1) 184 332 [some (aR 188), none, none] [aI u0] (G, c) Q := by
  refine e_eq1 (t := 474) (show decode (mC 184) 332 = .ok (.ifCond .eq 142, 3) by decide +kernel) (by decide) s0 (fun p1 => ?_) (fun p1 => ?_)
  · refine e_L (L' := [some (aR 188), none, none]) (st' := [aR 188]) (show decode (mC 184) 474 = .ok (.aload_n 0, 1) by decide +kernel) rfl (by show (if 188 = 0 then none else some (_, _)) = _; rw [if_neg (by decide)]) ?_
    refine e_ldc2 (show decode (mC 184) 475 = .ok (.ldc2_w 110, 3) by decide +kernel) (show pl 12 110 = some (9, 0, 0, 2003399528) by decide +kernel) ?_
    exact e_V (as := [aR 188, aL 2003399528]) (rest := []) (show decode (mC 184) 478 = .ok (.invokevirtual 203, 3) by decide +kernel) (by decide +kernel) (show (decide ((2 : Nat) = mA 174) && decide (174 < q_law)) = true by decide +kernel) rfl (show (0 : Nat) ≤ 8 by decide) (show (3 : Nat) ≤ mL 174 by decide +kernel) rfl (sh_ok hG (by decide +kernel)) (m1 p1)
  · refine e_L (L' := [some (aR 188), none, none]) (st' := [aR 188]) (show decode (mC 184) 335 = .ok (.aload_n 0, 1) by decide +kernel) rfl (by show (if 188 = 0 then none else some (_, _)) = _; rw [if_neg (by decide)]) ?_
    exact e_V (as := [aR 188]) (rest := []) (show decode (mC 184) 336 = .ok (.invokevirtual 181, 3) by decide +kernel) (by decide +kernel) (show (decide ((1 : Nat) = mA 172) && decide (172 < q_law)) = true by decide +kernel) rfl (show (0 : Nat) ≤ 8 by decide) (show (1 : Nat) ≤ mL 172 by decide +kernel) rfl (sh_ok hG (by decide +kernel)) (m2 p1)
/-- SoulOfficeModel.line()Z, from 339 -/
theorem b184_339 (hG : Shp G)
    (m0 : TM d 183 [aR 188] (G, c) (fun r h' => T (d + 1) 184 343 [some (aR 188), none, none] (r.toList ++ []) h' Q)) :
    T (d + 1) 184 339 [some (aR 188), none, none] [] (G, c) Q := by
  refine e_L (L' := [some (aR 188), none, none]) (st' := [aR 188]) (show decode (mC 184) 339 = .ok (.aload_n 0, 1) by decide +kernel) rfl (by show (if 188 = 0 then none else some (_, _)) = _; rw [if_neg (by decide)]) ?_
  exact e_V (as := [aR 188]) (rest := []) (show decode (mC 184) 340 = .ok (.invokevirtual 216, 3) by decide +kernel) (by decide +kernel) (show (decide ((1 : Nat) = mA 183) && decide (183 < q_law)) = true by decide +kernel) rfl (show (0 : Nat) ≤ 8 by decide) (show (1 : Nat) ≤ mL 183 by decide +kernel) rfl (sh_ok hG (by decide +kernel)) m0
/-- SoulOfficeModel.line()Z, from 343 -/
theorem b184_343 (hG : Shp G) {u0 x1 x2 : Int}
    (s0 : -2147483648 ≤ u0 ∧ u0 < 2147483648)
    (ex1 : c 188 18 = x1)
    (ex2 : c 191 167 = x2)
    (m3 : (¬ u0 = 0) → TM d 165 [aI x2, aI x1] (G, c) (fun r h' => T (d + 1) 184 365 [some (aR 188), some (aI x1), none] (r.toList ++ []) h' Q))
    (z4 : (u0 = 0) → Q (.inl (some (aI 0))) (G, c)) :
    T (d + 1) 184 343 [some (aR 188), none, none] [aI u0] (G, c) Q := by
  refine e_ne1 (t := 348) (show decode (mC 184) 343 = .ok (.ifCond .ne 5, 3) by decide +kernel) (by decide) s0 (fun p1 => ?_) (fun p1 => ?_)
  · refine e_L (L' := [some (aR 188), none, none]) (st' := [aR 188]) (show decode (mC 184) 348 = .ok (.aload_n 0, 1) by decide +kernel) rfl (by show (if 188 = 0 then none else some (_, _)) = _; rw [if_neg (by decide)]) ?_
    refine e_getIx (show decode (mC 184) 349 = .ok (.getfield 188, 3) by decide +kernel) (show pl 12 188 = some (0, 12, 18, 0) by decide +kernel) (by decide) (sh_ok hG (by decide +kernel)) ex1 ?_
    refine e_L (L' := [some (aR 188), some (aI x1), none]) (st' := []) (show decode (mC 184) 352 = .ok (.istore_n 1, 1) by decide +kernel) rfl rfl ?_
    refine e_L (L' := [some (aR 188), some (aI x1), none]) (st' := [aR 188]) (show decode (mC 184) 353 = .ok (.aload_n 0, 1) by decide +kernel) rfl (by show (if 188 = 0 then none else some (_, _)) = _; rw [if_neg (by decide)]) ?_
    refine e_getR (w := 191) (show decode (mC 184) 354 = .ok (.getfield 37, 3) by decide +kernel) (show pl 12 37 = some (0, 12, 7, 0) by decide +kernel) (by decide) (sh_ok hG (by decide +kernel)) (sh_rf hG (by decide +kernel)) ?_
    refine e_P (st' := [aI 167, aR 191]) (show decode (mC 184) 357 = .ok (.sipush 167, 3) by decide +kernel) rfl rfl rfl ?_
    refine e_ialdx (n := 168) (show decode (mC 184) 360 = .ok (.iaload, 1) by decide +kernel) (sh_ok hG (by decide +kernel)) (sh_ln hG (by decide +kernel)) (by decide) (by decide) (by decide) ex2 ?_
    refine e_L (L' := [some (aR 188), some (aI x1), none]) (st' := [aI x1, aI x2]) (show decode (mC 184) 361 = .ok (.iload_n 1, 1) by decide +kernel) rfl rfl ?_
    exact e_S (as := [aI x2, aI x1]) (rest := []) (show decode (mC 184) 362 = .ok (.invokestatic 219, 3) by decide +kernel) (by decide +kernel) (show (decide ((2 : Nat) = mA 165) && decide (165 < q_law)) = true by decide +kernel) rfl (show (0 : Nat) ≤ 8 by decide) (show (2 : Nat) ≤ mL 165 by decide +kernel) (m3 p1)
  · refine e_P (st' := [aI 0]) (show decode (mC 184) 346 = .ok (.iconst 0, 1) by decide +kernel) rfl rfl rfl ?_
    exact e_zret (show decode (mC 184) 347 = .ok (.ireturn, 1) by decide +kernel) rfl (by decide) (z4 p1)
/-- SoulOfficeModel.line()Z, from 365 -/
theorem b184_365 (hG : Shp G) {v1 u0 x1 : Int} (hQ : ∀ o o' h', q_eqo o o' → Q o h' → Q o' h')
    (s0 : -2147483648 ≤ u0 ∧ u0 < 2147483648)
    (ex1 : c 191 167 = x1)
    (m2 : (u0 = 0) → TM d 172 [aR 188] (G, (q_up c 191 167 (q_or x1 (q_shl 1 v1)))) (fun r h' => T (d + 1) 184 392 [some (aR 188), some (aI v1), none] (r.toList ++ []) h' Q))
    (m3 : (¬ u0 = 0) → TM d 173 [aR 188, aI 3] (G, c) (fun r h' => T (d + 1) 184 373 [none, none, none] (r.toList ++ []) h' Q)) :
    T (d + 1) 184 365 [some (aR 188), some (aI v1), none] [aI u0] (G, c) Q := by
  refine e_eq1 (t := 374) (show decode (mC 184) 365 = .ok (.ifCond .eq 9, 3) by decide +kernel) (by decide) s0 (fun p1 => ?_) (fun p1 => ?_)
  · refine e_L (L' := [some (aR 188), some (aI v1), none]) (st' := [aR 188]) (show decode (mC 184) 374 = .ok (.aload_n 0, 1) by decide +kernel) rfl (by show (if 188 = 0 then none else some (_, _)) = _; rw [if_neg (by decide)]) ?_
    refine e_getR (w := 191) (show decode (mC 184) 375 = .ok (.getfield 37, 3) by decide +kernel) (show pl 12 37 = some (0, 12, 7, 0) by decide +kernel) (by decide) (sh_ok hG (by decide +kernel)) (sh_rf hG (by decide +kernel)) ?_
    refine e_P (st' := [aI 167, aR 191]) (show decode (mC 184) 378 = .ok (.sipush 167, 3) by decide +kernel) rfl rfl rfl ?_
    refine e_P (st' := [aI 167, aR 191, aI 167, aR 191]) (show decode (mC 184) 381 = .ok (.dup2, 1) by decide +kernel) rfl rfl rfl ?_
    refine e_ialdx (n := 168) (show decode (mC 184) 382 = .ok (.iaload, 1) by decide +kernel) (sh_ok hG (by decide +kernel)) (sh_ln hG (by decide +kernel)) (by decide) (by decide) (by decide) ex1 ?_
    refine e_P (st' := [aI 1, aI x1, aI 167, aR 191]) (show decode (mC 184) 383 = .ok (.iconst 1, 1) by decide +kernel) rfl rfl rfl ?_
    refine e_L (L' := [some (aR 188), some (aI v1), none]) (st' := [aI v1, aI 1, aI x1, aI 167, aR 191]) (show decode (mC 184) 384 = .ok (.iload_n 1, 1) by decide +kernel) rfl rfl ?_
    refine e_P (st' := [aI (q_shl 1 v1), aI x1, aI 167, aR 191]) (show decode (mC 184) 385 = .ok (.ishl, 1) by decide +kernel) rfl rfl rfl ?_
    refine e_P (st' := [aI (q_or x1 (q_shl 1 v1)), aI 167, aR 191]) (show decode (mC 184) 386 = .ok (.ior, 1) by decide +kernel) rfl rfl rfl ?_
    refine e_iast (n := 168) (show decode (mC 184) 387 = .ok (.iastore, 1) by decide +kernel) (sh_ok hG (by decide +kernel)) (sh_ln hG (by decide +kernel)) (by decide) (by decide) (by decide) ?_
    refine e_L (L' := [some (aR 188), some (aI v1), none]) (st' := [aR 188]) (show decode (mC 184) 388 = .ok (.aload_n 0, 1) by decide +kernel) rfl (by show (if 188 = 0 then none else some (_, _)) = _; rw [if_neg (by decide)]) ?_
    exact e_V (as := [aR 188]) (rest := []) (show decode (mC 184) 389 = .ok (.invokevirtual 181, 3) by decide +kernel) (by decide +kernel) (show (decide ((1 : Nat) = mA 172) && decide (172 < q_law)) = true by decide +kernel) rfl (show (0 : Nat) ≤ 8 by decide) (show (1 : Nat) ≤ mL 172 by decide +kernel) rfl (sh_ok hG (by decide +kernel)) (m2 p1)
  · refine e_L (L' := [some (aR 188), some (aI v1), none]) (st' := [aR 188]) (show decode (mC 184) 368 = .ok (.aload_n 0, 1) by decide +kernel) rfl (by show (if 188 = 0 then none else some (_, _)) = _; rw [if_neg (by decide)]) ?_
    refine e_P (st' := [aI 3, aR 188]) (show decode (mC 184) 369 = .ok (.iconst 3, 1) by decide +kernel) rfl rfl rfl ?_
    exact e_V (as := [aR 188, aI 3]) (rest := []) (show decode (mC 184) 370 = .ok (.invokevirtual 178, 3) by decide +kernel) (by decide +kernel) (show (decide ((2 : Nat) = mA 173) && decide (173 < q_law)) = true by decide +kernel) rfl (show (0 : Nat) ≤ 8 by decide) (show (2 : Nat) ≤ mL 173 by decide +kernel) rfl (sh_ok hG (by decide +kernel)) (tm_le hQ (leN (leN (leS leE))) (m3 p1))
/-- SoulOfficeModel.line()Z, from 373 -/
theorem b184_373 (hG : Shp G) {u0 : Int}
    (s0 : u0 = 0 ∨ u0 = 1)
    (z1 : Q (.inl (some (aI u0))) (G, c)) :
    T (d + 1) 184 373 [none, none, none] [aI u0] (G, c) Q := by
  exact e_zret (show decode (mC 184) 373 = .ok (.ireturn, 1) by decide +kernel) rfl s0 z1
/-- SoulOfficeModel.line()Z, from 392 -/
theorem b184_392 (hG : Shp G) {v1 x1 : Int}
    (s0 : 0 ≤ (51 + v1))
    (s1 : (51 + v1) < 168)
    (ex1 : c 191 (51 + v1) = x1)
    (s3 : -2147483648 ≤ x1 ∧ x1 < 2147483648)
    (m4 : (x1 = 0) → TM d 182 [aR 188] (G, c) (fun r h' => T (d + 1) 184 417 [some (aR 188), some (aI v1), none] (r.toList ++ []) h' Q))
    (m5 : (¬ x1 = 0) → TM d 175 [aR 188, aI 59] (G, c) (fun r h' => T (d + 1) 184 410 [some (aR 188), some (aI v1), none] (r.toList ++ []) h' Q)) :
    T (d + 1) 184 392 [some (aR 188), some (aI v1), none] [] (G, c) Q := by
  refine e_L (L' := [some (aR 188), some (aI v1), none]) (st' := [aR 188]) (show decode (mC 184) 392 = .ok (.aload_n 0, 1) by decide +kernel) rfl (by show (if 188 = 0 then none else some (_, _)) = _; rw [if_neg (by decide)]) ?_
  refine e_getR (w := 191) (show decode (mC 184) 393 = .ok (.getfield 37, 3) by decide +kernel) (show pl 12 37 = some (0, 12, 7, 0) by decide +kernel) (by decide) (sh_ok hG (by decide +kernel)) (sh_rf hG (by decide +kernel)) ?_
  refine e_P (st' := [aI 51, aR 191]) (show decode (mC 184) 396 = .ok (.bipush 51, 2) by decide +kernel) rfl rfl rfl ?_
  refine e_L (L' := [some (aR 188), some (aI v1), none]) (st' := [aI v1, aI 51, aR 191]) (show decode (mC 184) 398 = .ok (.iload_n 1, 1) by decide +kernel) rfl rfl ?_
  refine e_P (st' := [aI (51 + v1), aR 191]) (show decode (mC 184) 399 = .ok (.iadd, 1) by decide +kernel) rfl rfl rfl ?_
  refine e_ialdx (n := 168) (show decode (mC 184) 400 = .ok (.iaload, 1) by decide +kernel) (sh_ok hG (by decide +kernel)) (sh_ln hG (by decide +kernel)) (by decide) s0 s1 ex1 ?_
  refine e_eq1 (t := 413) (show decode (mC 184) 401 = .ok (.ifCond .eq 12, 3) by decide +kernel) (by decide) s3 (fun p1 => ?_) (fun p1 => ?_)
  · refine e_L (L' := [some (aR 188), some (aI v1), none]) (st' := [aR 188]) (show decode (mC 184) 413 = .ok (.aload_n 0, 1) by decide +kernel) rfl (by show (if 188 = 0 then none else some (_, _)) = _; rw [if_neg (by decide)]) ?_
    exact e_V (as := [aR 188]) (rest := []) (show decode (mC 184) 414 = .ok (.invokevirtual 213, 3) by decide +kernel) (by decide +kernel) (show (decide ((1 : Nat) = mA 182) && decide (182 < q_law)) = true by decide +kernel) rfl (show (0 : Nat) ≤ 8 by decide) (show (1 : Nat) ≤ mL 182 by decide +kernel) rfl (sh_ok hG (by decide +kernel)) (m4 p1)
  · refine e_L (L' := [some (aR 188), some (aI v1), none]) (st' := [aR 188]) (show decode (mC 184) 404 = .ok (.aload_n 0, 1) by decide +kernel) rfl (by show (if 188 = 0 then none else some (_, _)) = _; rw [if_neg (by decide)]) ?_
    refine e_P (st' := [aI 59, aR 188]) (show decode (mC 184) 405 = .ok (.bipush 59, 2) by decide +kernel) rfl rfl rfl ?_
    exact e_V (as := [aR 188, aI 59]) (rest := []) (show decode (mC 184) 407 = .ok (.invokevirtual 175, 3) by decide +kernel) (by decide +kernel) (show (decide ((2 : Nat) = mA 175) && decide (175 < q_law)) = true by decide +kernel) rfl (show (0 : Nat) ≤ 8 by decide) (show (2 : Nat) ≤ mL 175 by decide +kernel) rfl (sh_ok hG (by decide +kernel)) (m5 p1)
/-- SoulOfficeModel.line()Z, from 410 -/
theorem b184_410 (hG : Shp G) {v1 u0 : Int}
    (s0 : -2147483648 ≤ u0 ∧ u0 < 2147483648)
    (z1 : (¬ u0 = 0) → Q (.inl (some (aI 1))) (G, c))
    (m2 : (u0 = 0) → TM d 182 [aR 188] (G, c) (fun r h' => T (d + 1) 184 417 [some (aR 188), some (aI v1), none] (r.toList ++ []) h' Q)) :
    T (d + 1) 184 410 [some (aR 188), some (aI v1), none] [aI u0] (G, c) Q := by
  refine e_ne1 (t := 472) (show decode (mC 184) 410 = .ok (.ifCond .ne 62, 3) by decide +kernel) (by decide) s0 (fun p1 => ?_) (fun p1 => ?_)
  · refine e_P (st' := [aI 1]) (show decode (mC 184) 472 = .ok (.iconst 1, 1) by decide +kernel) rfl rfl rfl ?_
    exact e_zret (show decode (mC 184) 473 = .ok (.ireturn, 1) by decide +kernel) rfl (by decide) (z1 p1)
  · refine e_L (L' := [some (aR 188), some (aI v1), none]) (st' := [aR 188]) (show decode (mC 184) 413 = .ok (.aload_n 0, 1) by decide +kernel) rfl (by show (if 188 = 0 then none else some (_, _)) = _; rw [if_neg (by decide)]) ?_
    exact e_V (as := [aR 188]) (rest := []) (show decode (mC 184) 414 = .ok (.invokevirtual 213, 3) by decide +kernel) (by decide +kernel) (show (decide ((1 : Nat) = mA 182) && decide (182 < q_law)) = true by decide +kernel) rfl (show (0 : Nat) ≤ 8 by decide) (show (1 : Nat) ≤ mL 182 by decide +kernel) rfl (sh_ok hG (by decide +kernel)) (m2 p1)
/-- SoulOfficeModel.line()Z, from 417 -/
theorem b184_417 (hG : Shp G) {v1 u0 x1 x2 : Int}
    (s0 : -2147483648 ≤ u0 ∧ u0 < 2147483648)
    (s1 : (¬ u0 = 0) → 0 ≤ (51 + v1))
    (s2 : (¬ u0 = 0) → (51 + v1) < 168)
    (ex1 : c 191 (51 + v1) = x1)
    (ex2 : c 188 18 = x2)
    (m5 : (¬ u0 = 0) → TM d 165 [aI x1, aI x2] (G, c) (fun r h' => T (d + 1) 184 438 [some (aR 188), some (aI v1), none] (r.toList ++ []) h' Q))
    (z6 : (u0 = 0) → Q (.inl (some (aI 0))) (G, c)) :
    T (d + 1) 184 417 [some (aR 188), some (aI v1), none] [aI u0] (G, c) Q := by
  refine e_ne1 (t := 422) (show decode (mC 184) 417 = .ok (.ifCond .ne 5, 3) by decide +kernel) (by decide) s0 (fun p1 => ?_) (fun p1 => ?_)
  · refine e_L (L' := [some (aR 188), some (aI v1), none]) (st' := [aR 188]) (show decode (mC 184) 422 = .ok (.aload_n 0, 1) by decide +kernel) rfl (by show (if 188 = 0 then none else some (_, _)) = _; rw [if_neg (by decide)]) ?_
    refine e_getR (w := 191) (show decode (mC 184) 423 = .ok (.getfield 37, 3) by decide +kernel) (show pl 12 37 = some (0, 12, 7, 0) by decide +kernel) (by decide) (sh_ok hG (by decide +kernel)) (sh_rf hG (by decide +kernel)) ?_
    refine e_P (st' := [aI 51, aR 191]) (show decode (mC 184) 426 = .ok (.bipush 51, 2) by decide +kernel) rfl rfl rfl ?_
    refine e_L (L' := [some (aR 188), some (aI v1), none]) (st' := [aI v1, aI 51, aR 191]) (show decode (mC 184) 428 = .ok (.iload_n 1, 1) by decide +kernel) rfl rfl ?_
    refine e_P (st' := [aI (51 + v1), aR 191]) (show decode (mC 184) 429 = .ok (.iadd, 1) by decide +kernel) rfl rfl rfl ?_
    refine e_ialdx (n := 168) (show decode (mC 184) 430 = .ok (.iaload, 1) by decide +kernel) (sh_ok hG (by decide +kernel)) (sh_ln hG (by decide +kernel)) (by decide) (s1 p1) (s2 p1) ex1 ?_
    refine e_L (L' := [some (aR 188), some (aI v1), none]) (st' := [aR 188, aI x1]) (show decode (mC 184) 431 = .ok (.aload_n 0, 1) by decide +kernel) rfl (by show (if 188 = 0 then none else some (_, _)) = _; rw [if_neg (by decide)]) ?_
    refine e_getIx (show decode (mC 184) 432 = .ok (.getfield 188, 3) by decide +kernel) (show pl 12 188 = some (0, 12, 18, 0) by decide +kernel) (by decide) (sh_ok hG (by decide +kernel)) ex2 ?_
    exact e_S (as := [aI x1, aI x2]) (rest := []) (show decode (mC 184) 435 = .ok (.invokestatic 219, 3) by decide +kernel) (by decide +kernel) (show (decide ((2 : Nat) = mA 165) && decide (165 < q_law)) = true by decide +kernel) rfl (show (0 : Nat) ≤ 8 by decide) (show (2 : Nat) ≤ mL 165 by decide +kernel) (m5 p1)
  · refine e_P (st' := [aI 0]) (show decode (mC 184) 420 = .ok (.iconst 0, 1) by decide +kernel) rfl rfl rfl ?_
    exact e_zret (show decode (mC 184) 421 = .ok (.ireturn, 1) by decide +kernel) rfl (by decide) (z6 p1)
/-- SoulOfficeModel.line()Z, from 438 -/
theorem b184_438 (hG : Shp G) {v1 u0 x1 x2 : Int} (hQ : ∀ o o' h', q_eqo o o' → Q o h' → Q o' h')
    (s0 : -2147483648 ≤ u0 ∧ u0 < 2147483648)
    (s1 : (u0 = 0) → 0 ≤ (51 + v1))
    (s2 : (u0 = 0) → (51 + v1) < 168)
    (ex1 : c 191 (51 + v1) = x1)
    (ex2 : c 188 18 = x2)
    (m5 : (u0 = 0) → TM d 172 [aR 188] (G, (q_up c 191 (51 + v1) (q_or x1 (q_shl 1 x2)))) (fun r h' => T (d + 1) 184 469 [some (aR 188), some (aI v1), none] (r.toList ++ []) h' Q))
    (m6 : (¬ u0 = 0) → TM d 173 [aR 188, aI 3] (G, c) (fun r h' => T (d + 1) 184 446 [none, none, none] (r.toList ++ []) h' Q)) :
    T (d + 1) 184 438 [some (aR 188), some (aI v1), none] [aI u0] (G, c) Q := by
  refine e_eq1 (t := 447) (show decode (mC 184) 438 = .ok (.ifCond .eq 9, 3) by decide +kernel) (by decide) s0 (fun p1 => ?_) (fun p1 => ?_)
  · refine e_L (L' := [some (aR 188), some (aI v1), none]) (st' := [aR 188]) (show decode (mC 184) 447 = .ok (.aload_n 0, 1) by decide +kernel) rfl (by show (if 188 = 0 then none else some (_, _)) = _; rw [if_neg (by decide)]) ?_
    refine e_getR (w := 191) (show decode (mC 184) 448 = .ok (.getfield 37, 3) by decide +kernel) (show pl 12 37 = some (0, 12, 7, 0) by decide +kernel) (by decide) (sh_ok hG (by decide +kernel)) (sh_rf hG (by decide +kernel)) ?_
    refine e_P (st' := [aI 51, aR 191]) (show decode (mC 184) 451 = .ok (.bipush 51, 2) by decide +kernel) rfl rfl rfl ?_
    refine e_L (L' := [some (aR 188), some (aI v1), none]) (st' := [aI v1, aI 51, aR 191]) (show decode (mC 184) 453 = .ok (.iload_n 1, 1) by decide +kernel) rfl rfl ?_
    refine e_P (st' := [aI (51 + v1), aR 191]) (show decode (mC 184) 454 = .ok (.iadd, 1) by decide +kernel) rfl rfl rfl ?_
    refine e_P (st' := [aI (51 + v1), aR 191, aI (51 + v1), aR 191]) (show decode (mC 184) 455 = .ok (.dup2, 1) by decide +kernel) rfl rfl rfl ?_
    refine e_ialdx (n := 168) (show decode (mC 184) 456 = .ok (.iaload, 1) by decide +kernel) (sh_ok hG (by decide +kernel)) (sh_ln hG (by decide +kernel)) (by decide) (s1 p1) (s2 p1) ex1 ?_
    refine e_P (st' := [aI 1, aI x1, aI (51 + v1), aR 191]) (show decode (mC 184) 457 = .ok (.iconst 1, 1) by decide +kernel) rfl rfl rfl ?_
    refine e_L (L' := [some (aR 188), some (aI v1), none]) (st' := [aR 188, aI 1, aI x1, aI (51 + v1), aR 191]) (show decode (mC 184) 458 = .ok (.aload_n 0, 1) by decide +kernel) rfl (by show (if 188 = 0 then none else some (_, _)) = _; rw [if_neg (by decide)]) ?_
    refine e_getIx (show decode (mC 184) 459 = .ok (.getfield 188, 3) by decide +kernel) (show pl 12 188 = some (0, 12, 18, 0) by decide +kernel) (by decide) (sh_ok hG (by decide +kernel)) ex2 ?_
    refine e_P (st' := [aI (q_shl 1 x2), aI x1, aI (51 + v1), aR 191]) (show decode (mC 184) 462 = .ok (.ishl, 1) by decide +kernel) rfl rfl rfl ?_
    refine e_P (st' := [aI (q_or x1 (q_shl 1 x2)), aI (51 + v1), aR 191]) (show decode (mC 184) 463 = .ok (.ior, 1) by decide +kernel) rfl rfl rfl ?_
    refine e_iast (n := 168) (show decode (mC 184) 464 = .ok (.iastore, 1) by decide +kernel) (sh_ok hG (by decide +kernel)) (sh_ln hG (by decide +kernel)) (by decide) (s1 p1) (s2 p1) ?_
    refine e_L (L' := [some (aR 188), some (aI v1), none]) (st' := [aR 188]) (show decode (mC 184) 465 = .ok (.aload_n 0, 1) by decide +kernel) rfl (by show (if 188 = 0 then none else some (_, _)) = _; rw [if_neg (by decide)]) ?_
    exact e_V (as := [aR 188]) (rest := []) (show decode (mC 184) 466 = .ok (.invokevirtual 181, 3) by decide +kernel) (by decide +kernel) (show (decide ((1 : Nat) = mA 172) && decide (172 < q_law)) = true by decide +kernel) rfl (show (0 : Nat) ≤ 8 by decide) (show (1 : Nat) ≤ mL 172 by decide +kernel) rfl (sh_ok hG (by decide +kernel)) (m5 p1)
  · refine e_L (L' := [some (aR 188), some (aI v1), none]) (st' := [aR 188]) (show decode (mC 184) 441 = .ok (.aload_n 0, 1) by decide +kernel) rfl (by show (if 188 = 0 then none else some (_, _)) = _; rw [if_neg (by decide)]) ?_
    refine e_P (st' := [aI 3, aR 188]) (show decode (mC 184) 442 = .ok (.iconst 3, 1) by decide +kernel) rfl rfl rfl ?_
    exact e_V (as := [aR 188, aI 3]) (rest := []) (show decode (mC 184) 443 = .ok (.invokevirtual 178, 3) by decide +kernel) (by decide +kernel) (show (decide ((2 : Nat) = mA 173) && decide (173 < q_law)) = true by decide +kernel) rfl (show (0 : Nat) ≤ 8 by decide) (show (2 : Nat) ≤ mL 173 by decide +kernel) rfl (sh_ok hG (by decide +kernel)) (tm_le hQ (leN (leN (leS leE))) (m6 p1))
/-- SoulOfficeModel.line()Z, from 446 -/
theorem b184_446 (hG : Shp G) {u0 : Int}
    (s0 : u0 = 0 ∨ u0 = 1)
    (z1 : Q (.inl (some (aI u0))) (G, c)) :
    T (d + 1) 184 446 [none, none, none] [aI u0] (G, c) Q := by
  exact e_zret (show decode (mC 184) 446 = .ok (.ireturn, 1) by decide +kernel) rfl s0 z1
/-- SoulOfficeModel.line()Z, from 469 -/
theorem b184_469 (hG : Shp G) {v1 : Int}
    (k0 : T (d + 1) 184 392 [some (aR 188), some (aI v1), none] [] (G, c) Q) :
    T (d + 1) 184 469 [some (aR 188), some (aI v1), none] [] (G, c) Q := by
  refine e_go (t := 392) (show decode (mC 184) 469 = .ok (.goto (-77), 3) by decide +kernel) (by decide) ?_
  exact k0
/-- SoulOfficeModel.line()Z, from 481 -/
theorem b184_481 (hG : Shp G) {u0 : Int}
    (s0 : -2147483648 ≤ u0 ∧ u0 < 2147483648)
    (m1 : (u0 = 0) → TM d 174 [aR 188, aL 1684365940] (G, c) (fun r h' => T (d + 1) 184 561 [some (aR 188), none, none] (r.toList ++ []) h' Q))
    (m2 : (¬ u0 = 0) → TM d 172 [aR 188] (G, c) (fun r h' => T (d + 1) 184 488 [some (aR 188), none, none] (r.toList ++ []) h' Q)) :
    T (d + 1) 184 481 [some (aR 188), none, none] [aI u0] (G, c) Q := by
  refine e_eq1 (t := 554) (show decode (mC 184) 481 = .ok (.ifCond .eq 73, 3) by decide +kernel) (by decide) s0 (fun p1 => ?_) (fun p1 => ?_)
  · refine e_L (L' := [some (aR 188), none, none]) (st' := [aR 188]) (show decode (mC 184) 554 = .ok (.aload_n 0, 1) by decide +kernel) rfl (by show (if 188 = 0 then none else some (_, _)) = _; rw [if_neg (by decide)]) ?_
    refine e_ldc2 (show decode (mC 184) 555 = .ok (.ldc2_w 112, 3) by decide +kernel) (show pl 12 112 = some (9, 0, 0, 1684365940) by decide +kernel) ?_
    exact e_V (as := [aR 188, aL 1684365940]) (rest := []) (show decode (mC 184) 558 = .ok (.invokevirtual 203, 3) by decide +kernel) (by decide +kernel) (show (decide ((2 : Nat) = mA 174) && decide (174 < q_law)) = true by decide +kernel) rfl (show (0 : Nat) ≤ 8 by decide) (show (3 : Nat) ≤ mL 174 by decide +kernel) rfl (sh_ok hG (by decide +kernel)) (m1 p1)
  · refine e_L (L' := [some (aR 188), none, none]) (st' := [aR 188]) (show decode (mC 184) 484 = .ok (.aload_n 0, 1) by decide +kernel) rfl (by show (if 188 = 0 then none else some (_, _)) = _; rw [if_neg (by decide)]) ?_
    exact e_V (as := [aR 188]) (rest := []) (show decode (mC 184) 485 = .ok (.invokevirtual 181, 3) by decide +kernel) (by decide +kernel) (show (decide ((1 : Nat) = mA 172) && decide (172 < q_law)) = true by decide +kernel) rfl (show (0 : Nat) ≤ 8 by decide) (show (1 : Nat) ≤ mL 172 by decide +kernel) rfl (sh_ok hG (by decide +kernel)) (m2 p1)
/-- SoulOfficeModel.line()Z, from 488 -/
theorem b184_488 (hG : Shp G)
    (m0 : TM d 183 [aR 188] (G, c) (fun r h' => T (d + 1) 184 492 [some (aR 188), none, none] (r.toList ++ []) h' Q)) :
    T (d + 1) 184 488 [some (aR 188), none, none] [] (G, c) Q := by
  refine e_L (L' := [some (aR 188), none, none]) (st' := [aR 188]) (show decode (mC 184) 488 = .ok (.aload_n 0, 1) by decide +kernel) rfl (by show (if 188 = 0 then none else some (_, _)) = _; rw [if_neg (by decide)]) ?_
  exact e_V (as := [aR 188]) (rest := []) (show decode (mC 184) 489 = .ok (.invokevirtual 216, 3) by decide +kernel) (by decide +kernel) (show (decide ((1 : Nat) = mA 183) && decide (183 < q_law)) = true by decide +kernel) rfl (show (0 : Nat) ≤ 8 by decide) (show (1 : Nat) ≤ mL 183 by decide +kernel) rfl (sh_ok hG (by decide +kernel)) m0
/-- SoulOfficeModel.line()Z, from 492 -/
theorem b184_492 (hG : Shp G) {u0 x1 x2 : Int} (hQ : ∀ o o' h', q_eqo o o' → Q o h' → Q o' h')
    (s0 : -2147483648 ≤ u0 ∧ u0 < 2147483648)
    (ex1 : c 188 18 = x1)
    (s2 : (¬ u0 = 0) → 0 ≤ (59 + x1))
    (s3 : (¬ u0 = 0) → (59 + x1) < 168)
    (ex2 : c 191 (59 + x1) = x2)
    (s5 : (¬ u0 = 0) → -2147483648 ≤ x2 ∧ x2 < 2147483648)
    (m6 : (¬ u0 = 0) → (x2 ≤ 0) → TM d 172 [aR 188] (G, c) (fun r h' => T (d + 1) 184 524 [some (aR 188), some (aI x1), none] (r.toList ++ []) h' Q))
    (m7 : (¬ u0 = 0) → (0 < x2) → TM d 173 [aR 188, aI 3] (G, c) (fun r h' => T (d + 1) 184 519 [none, none, none] (r.toList ++ []) h' Q))
    (z8 : (u0 = 0) → Q (.inl (some (aI 0))) (G, c)) :
    T (d + 1) 184 492 [some (aR 188), none, none] [aI u0] (G, c) Q := by
  refine e_ne1 (t := 497) (show decode (mC 184) 492 = .ok (.ifCond .ne 5, 3) by decide +kernel) (by decide) s0 (fun p1 => ?_) (fun p1 => ?_)
  · refine e_L (L' := [some (aR 188), none, none]) (st' := [aR 188]) (show decode (mC 184) 497 = .ok (.aload_n 0, 1) by decide +kernel) rfl (by show (if 188 = 0 then none else some (_, _)) = _; rw [if_neg (by decide)]) ?_
    refine e_getIx (show decode (mC 184) 498 = .ok (.getfield 188, 3) by decide +kernel) (show pl 12 188 = some (0, 12, 18, 0) by decide +kernel) (by decide) (sh_ok hG (by decide +kernel)) ex1 ?_
    refine e_L (L' := [some (aR 188), some (aI x1), none]) (st' := []) (show decode (mC 184) 501 = .ok (.istore_n 1, 1) by decide +kernel) rfl rfl ?_
    refine e_L (L' := [some (aR 188), some (aI x1), none]) (st' := [aR 188]) (show decode (mC 184) 502 = .ok (.aload_n 0, 1) by decide +kernel) rfl (by show (if 188 = 0 then none else some (_, _)) = _; rw [if_neg (by decide)]) ?_
    refine e_getR (w := 191) (show decode (mC 184) 503 = .ok (.getfield 37, 3) by decide +kernel) (show pl 12 37 = some (0, 12, 7, 0) by decide +kernel) (by decide) (sh_ok hG (by decide +kernel)) (sh_rf hG (by decide +kernel)) ?_
    refine e_P (st' := [aI 59, aR 191]) (show decode (mC 184) 506 = .ok (.bipush 59, 2) by decide +kernel) rfl rfl rfl ?_
    refine e_L (L' := [some (aR 188), some (aI x1), none]) (st' := [aI x1, aI 59, aR 191]) (show decode (mC 184) 508 = .ok (.iload_n 1, 1) by decide +kernel) rfl rfl ?_
    refine e_P (st' := [aI (59 + x1), aR 191]) (show decode (mC 184) 509 = .ok (.iadd, 1) by decide +kernel) rfl rfl rfl ?_
    refine e_ialdx (n := 168) (show decode (mC 184) 510 = .ok (.iaload, 1) by decide +kernel) (sh_ok hG (by decide +kernel)) (sh_ln hG (by decide +kernel)) (by decide) (s2 p1) (s3 p1) ex2 ?_
    refine e_le1 (t := 520) (show decode (mC 184) 511 = .ok (.ifCond .le 9, 3) by decide +kernel) (by decide) (s5 p1) (fun p2 => ?_) (fun p2 => ?_)
    · refine e_L (L' := [some (aR 188), some (aI x1), none]) (st' := [aR 188]) (show decode (mC 184) 520 = .ok (.aload_n 0, 1) by decide +kernel) rfl (by show (if 188 = 0 then none else some (_, _)) = _; rw [if_neg (by decide)]) ?_
      exact e_V (as := [aR 188]) (rest := []) (show decode (mC 184) 521 = .ok (.invokevirtual 181, 3) by decide +kernel) (by decide +kernel) (show (decide ((1 : Nat) = mA 172) && decide (172 < q_law)) = true by decide +kernel) rfl (show (0 : Nat) ≤ 8 by decide) (show (1 : Nat) ≤ mL 172 by decide +kernel) rfl (sh_ok hG (by decide +kernel)) (m6 p1 p2)
    · refine e_L (L' := [some (aR 188), some (aI x1), none]) (st' := [aR 188]) (show decode (mC 184) 514 = .ok (.aload_n 0, 1) by decide +kernel) rfl (by show (if 188 = 0 then none else some (_, _)) = _; rw [if_neg (by decide)]) ?_
      refine e_P (st' := [aI 3, aR 188]) (show decode (mC 184) 515 = .ok (.iconst 3, 1) by decide +kernel) rfl rfl rfl ?_
      exact e_V (as := [aR 188, aI 3]) (rest := []) (show decode (mC 184) 516 = .ok (.invokevirtual 178, 3) by decide +kernel) (by decide +kernel) (show (decide ((2 : Nat) = mA 173) && decide (173 < q_law)) = true by decide +kernel) rfl (show (0 : Nat) ≤ 8 by decide) (show (2 : Nat) ≤ mL 173 by decide +kernel) rfl (sh_ok hG (by decide +kernel)) (tm_le hQ (leN (leN (leS leE))) (m7 p1 p2))
  · refine e_P (st' := [aI 0]) (show decode (mC 184) 495 = .ok (.iconst 0, 1) by decide +kernel) rfl rfl rfl ?_
    exact e_zret (show decode (mC 184) 496 = .ok (.ireturn, 1) by decide +kernel) rfl (by decide) (z8 p1)
/-- SoulOfficeModel.line()Z, from 519 -/
theorem b184_519 (hG : Shp G) {u0 : Int}
    (s0 : u0 = 0 ∨ u0 = 1)
    (z1 : Q (.inl (some (aI u0))) (G, c)) :
    T (d + 1) 184 519 [none, none, none] [aI u0] (G, c) Q := by
  exact e_zret (show decode (mC 184) 519 = .ok (.ireturn, 1) by decide +kernel) rfl s0 z1
/-- SoulOfficeModel.line()Z, from 524 -/
theorem b184_524 (hG : Shp G) {v1 : Int}
    (m0 : TM d 182 [aR 188] (G, c) (fun r h' => T (d + 1) 184 528 [some (aR 188), some (aI v1), none] (r.toList ++ []) h' Q)) :
    T (d + 1) 184 524 [some (aR 188), some (aI v1), none] [] (G, c) Q := by
  refine e_L (L' := [some (aR 188), some (aI v1), none]) (st' := [aR 188]) (show decode (mC 184) 524 = .ok (.aload_n 0, 1) by decide +kernel) rfl (by show (if 188 = 0 then none else some (_, _)) = _; rw [if_neg (by decide)]) ?_
  exact e_V (as := [aR 188]) (rest := []) (show decode (mC 184) 525 = .ok (.invokevirtual 213, 3) by decide +kernel) (by decide +kernel) (show (decide ((1 : Nat) = mA 182) && decide (182 < q_law)) = true by decide +kernel) rfl (show (0 : Nat) ≤ 8 by decide) (show (1 : Nat) ≤ mL 182 by decide +kernel) rfl (sh_ok hG (by decide +kernel)) m0
/-- SoulOfficeModel.line()Z, from 528 -/
theorem b184_528 (hG : Shp G) {v1 u0 x1 : Int} (hQ : ∀ o o' h', q_eqo o o' → Q o h' → Q o' h')
    (s0 : -2147483648 ≤ u0 ∧ u0 < 2147483648)
    (ex1 : c 188 18 = x1)
    (s2 : (¬ u0 = 0) → 0 ≤ (59 + v1))
    (s3 : (¬ u0 = 0) → (59 + v1) < 168)
    (m4 : (¬ u0 = 0) → TM d 172 [aR 188] (G, (q_up c 191 (59 + v1) (x1 + 1))) (fun r h' => T (d + 1) 184 552 [none, none, none] (r.toList ++ []) h' Q))
    (z5 : (u0 = 0) → Q (.inl (some (aI 0))) (G, c)) :
    T (d + 1) 184 528 [some (aR 188), some (aI v1), none] [aI u0] (G, c) Q := by
  refine e_ne1 (t := 533) (show decode (mC 184) 528 = .ok (.ifCond .ne 5, 3) by decide +kernel) (by decide) s0 (fun p1 => ?_) (fun p1 => ?_)
  · refine e_L (L' := [some (aR 188), some (aI v1), none]) (st' := [aR 188]) (show decode (mC 184) 533 = .ok (.aload_n 0, 1) by decide +kernel) rfl (by show (if 188 = 0 then none else some (_, _)) = _; rw [if_neg (by decide)]) ?_
    refine e_getR (w := 191) (show decode (mC 184) 534 = .ok (.getfield 37, 3) by decide +kernel) (show pl 12 37 = some (0, 12, 7, 0) by decide +kernel) (by decide) (sh_ok hG (by decide +kernel)) (sh_rf hG (by decide +kernel)) ?_
    refine e_P (st' := [aI 59, aR 191]) (show decode (mC 184) 537 = .ok (.bipush 59, 2) by decide +kernel) rfl rfl rfl ?_
    refine e_L (L' := [some (aR 188), some (aI v1), none]) (st' := [aI v1, aI 59, aR 191]) (show decode (mC 184) 539 = .ok (.iload_n 1, 1) by decide +kernel) rfl rfl ?_
    refine e_P (st' := [aI (59 + v1), aR 191]) (show decode (mC 184) 540 = .ok (.iadd, 1) by decide +kernel) rfl rfl rfl ?_
    refine e_L (L' := [some (aR 188), some (aI v1), none]) (st' := [aR 188, aI (59 + v1), aR 191]) (show decode (mC 184) 541 = .ok (.aload_n 0, 1) by decide +kernel) rfl (by show (if 188 = 0 then none else some (_, _)) = _; rw [if_neg (by decide)]) ?_
    refine e_getIx (show decode (mC 184) 542 = .ok (.getfield 188, 3) by decide +kernel) (show pl 12 188 = some (0, 12, 18, 0) by decide +kernel) (by decide) (sh_ok hG (by decide +kernel)) ex1 ?_
    refine e_P (st' := [aI 1, aI x1, aI (59 + v1), aR 191]) (show decode (mC 184) 545 = .ok (.iconst 1, 1) by decide +kernel) rfl rfl rfl ?_
    refine e_P (st' := [aI (x1 + 1), aI (59 + v1), aR 191]) (show decode (mC 184) 546 = .ok (.iadd, 1) by decide +kernel) rfl rfl rfl ?_
    refine e_iast (n := 168) (show decode (mC 184) 547 = .ok (.iastore, 1) by decide +kernel) (sh_ok hG (by decide +kernel)) (sh_ln hG (by decide +kernel)) (by decide) (s2 p1) (s3 p1) ?_
    refine e_L (L' := [some (aR 188), some (aI v1), none]) (st' := [aR 188]) (show decode (mC 184) 548 = .ok (.aload_n 0, 1) by decide +kernel) rfl (by show (if 188 = 0 then none else some (_, _)) = _; rw [if_neg (by decide)]) ?_
    exact e_V (as := [aR 188]) (rest := []) (show decode (mC 184) 549 = .ok (.invokevirtual 181, 3) by decide +kernel) (by decide +kernel) (show (decide ((1 : Nat) = mA 172) && decide (172 < q_law)) = true by decide +kernel) rfl (show (0 : Nat) ≤ 8 by decide) (show (1 : Nat) ≤ mL 172 by decide +kernel) rfl (sh_ok hG (by decide +kernel)) (tm_le hQ (leN (leN (leS leE))) (m4 p1))
  · refine e_P (st' := [aI 0]) (show decode (mC 184) 531 = .ok (.iconst 0, 1) by decide +kernel) rfl rfl rfl ?_
    exact e_zret (show decode (mC 184) 532 = .ok (.ireturn, 1) by decide +kernel) rfl (by decide) (z5 p1)
/-- SoulOfficeModel.line()Z, from 552 -/
theorem b184_552 (hG : Shp G)
    (z0 : Q (.inl (some (aI 1))) (G, c)) :
    T (d + 1) 184 552 [none, none, none] [] (G, c) Q := by
  refine e_P (st' := [aI 1]) (show decode (mC 184) 552 = .ok (.iconst 1, 1) by decide +kernel) rfl rfl rfl ?_
  exact e_zret (show decode (mC 184) 553 = .ok (.ireturn, 1) by decide +kernel) rfl (by decide) z0
/-- SoulOfficeModel.line()Z, from 561 -/
theorem b184_561 (hG : Shp G) {u0 : Int}
    (s0 : -2147483648 ≤ u0 ∧ u0 < 2147483648)
    (m1 : (u0 = 0) → TM d 174 [aR 188, aL 444301539187] (G, c) (fun r h' => T (d + 1) 184 678 [some (aR 188), none, none] (r.toList ++ []) h' Q))
    (m2 : (¬ u0 = 0) → TM d 172 [aR 188] (G, c) (fun r h' => T (d + 1) 184 568 [some (aR 188), none, none] (r.toList ++ []) h' Q)) :
    T (d + 1) 184 561 [some (aR 188), none, none] [aI u0] (G, c) Q := by
  refine e_eq1 (t := 671) (show decode (mC 184) 561 = .ok (.ifCond .eq 110, 3) by decide +kernel) (by decide) s0 (fun p1 => ?_) (fun p1 => ?_)
  · refine e_L (L' := [some (aR 188), none, none]) (st' := [aR 188]) (show decode (mC 184) 671 = .ok (.aload_n 0, 1) by decide +kernel) rfl (by show (if 188 = 0 then none else some (_, _)) = _; rw [if_neg (by decide)]) ?_
    refine e_ldc2 (show decode (mC 184) 672 = .ok (.ldc2_w 114, 3) by decide +kernel) (show pl 12 114 = some (9, 0, 0, 444301539187) by decide +kernel) ?_
    exact e_V (as := [aR 188, aL 444301539187]) (rest := []) (show decode (mC 184) 675 = .ok (.invokevirtual 203, 3) by decide +kernel) (by decide +kernel) (show (decide ((2 : Nat) = mA 174) && decide (174 < q_law)) = true by decide +kernel) rfl (show (0 : Nat) ≤ 8 by decide) (show (3 : Nat) ≤ mL 174 by decide +kernel) rfl (sh_ok hG (by decide +kernel)) (m1 p1)
  · refine e_L (L' := [some (aR 188), none, none]) (st' := [aR 188]) (show decode (mC 184) 564 = .ok (.aload_n 0, 1) by decide +kernel) rfl (by show (if 188 = 0 then none else some (_, _)) = _; rw [if_neg (by decide)]) ?_
    exact e_V (as := [aR 188]) (rest := []) (show decode (mC 184) 565 = .ok (.invokevirtual 181, 3) by decide +kernel) (by decide +kernel) (show (decide ((1 : Nat) = mA 172) && decide (172 < q_law)) = true by decide +kernel) rfl (show (0 : Nat) ≤ 8 by decide) (show (1 : Nat) ≤ mL 172 by decide +kernel) rfl (sh_ok hG (by decide +kernel)) (m2 p1)
/-- SoulOfficeModel.line()Z, from 568 -/
theorem b184_568 (hG : Shp G)
    (m0 : TM d 183 [aR 188] (G, c) (fun r h' => T (d + 1) 184 572 [some (aR 188), none, none] (r.toList ++ []) h' Q)) :
    T (d + 1) 184 568 [some (aR 188), none, none] [] (G, c) Q := by
  refine e_L (L' := [some (aR 188), none, none]) (st' := [aR 188]) (show decode (mC 184) 568 = .ok (.aload_n 0, 1) by decide +kernel) rfl (by show (if 188 = 0 then none else some (_, _)) = _; rw [if_neg (by decide)]) ?_
  exact e_V (as := [aR 188]) (rest := []) (show decode (mC 184) 569 = .ok (.invokevirtual 216, 3) by decide +kernel) (by decide +kernel) (show (decide ((1 : Nat) = mA 183) && decide (183 < q_law)) = true by decide +kernel) rfl (show (0 : Nat) ≤ 8 by decide) (show (1 : Nat) ≤ mL 183 by decide +kernel) rfl (sh_ok hG (by decide +kernel)) m0
/-- SoulOfficeModel.line()Z, from 572 -/
theorem b184_572 (hG : Shp G) {u0 x1 : Int}
    (s0 : -2147483648 ≤ u0 ∧ u0 < 2147483648)
    (ex1 : c 188 18 = x1)
    (m2 : (¬ u0 = 0) → TM d 172 [aR 188] (G, c) (fun r h' => T (d + 1) 184 586 [some (aR 188), some (aI x1), none] (r.toList ++ []) h' Q))
    (z3 : (u0 = 0) → Q (.inl (some (aI 0))) (G, c)) :
    T (d + 1) 184 572 [some (aR 188), none, none] [aI u0] (G, c) Q := by
  refine e_ne1 (t := 577) (show decode (mC 184) 572 = .ok (.ifCond .ne 5, 3) by decide +kernel) (by decide) s0 (fun p1 => ?_) (fun p1 => ?_)
  · refine e_L (L' := [some (aR 188), none, none]) (st' := [aR 188]) (show decode (mC 184) 577 = .ok (.aload_n 0, 1) by decide +kernel) rfl (by show (if 188 = 0 then none else some (_, _)) = _; rw [if_neg (by decide)]) ?_
    refine e_getIx (show decode (mC 184) 578 = .ok (.getfield 188, 3) by decide +kernel) (show pl 12 188 = some (0, 12, 18, 0) by decide +kernel) (by decide) (sh_ok hG (by decide +kernel)) ex1 ?_
    refine e_L (L' := [some (aR 188), some (aI x1), none]) (st' := []) (show decode (mC 184) 581 = .ok (.istore_n 1, 1) by decide +kernel) rfl rfl ?_
    refine e_L (L' := [some (aR 188), some (aI x1), none]) (st' := [aR 188]) (show decode (mC 184) 582 = .ok (.aload_n 0, 1) by decide +kernel) rfl (by show (if 188 = 0 then none else some (_, _)) = _; rw [if_neg (by decide)]) ?_
    exact e_V (as := [aR 188]) (rest := []) (show decode (mC 184) 583 = .ok (.invokevirtual 181, 3) by decide +kernel) (by decide +kernel) (show (decide ((1 : Nat) = mA 172) && decide (172 < q_law)) = true by decide +kernel) rfl (show (0 : Nat) ≤ 8 by decide) (show (1 : Nat) ≤ mL 172 by decide +kernel) rfl (sh_ok hG (by decide +kernel)) (m2 p1)
  · refine e_P (st' := [aI 0]) (show decode (mC 184) 575 = .ok (.iconst 0, 1) by decide +kernel) rfl rfl rfl ?_
    exact e_zret (show decode (mC 184) 576 = .ok (.ireturn, 1) by decide +kernel) rfl (by decide) (z3 p1)
/-- SoulOfficeModel.line()Z, from 586 -/
theorem b184_586 (hG : Shp G) {v1 : Int}
    (m0 : TM d 183 [aR 188] (G, c) (fun r h' => T (d + 1) 184 590 [some (aR 188), some (aI v1), none] (r.toList ++ []) h' Q)) :
    T (d + 1) 184 586 [some (aR 188), some (aI v1), none] [] (G, c) Q := by
  refine e_L (L' := [some (aR 188), some (aI v1), none]) (st' := [aR 188]) (show decode (mC 184) 586 = .ok (.aload_n 0, 1) by decide +kernel) rfl (by show (if 188 = 0 then none else some (_, _)) = _; rw [if_neg (by decide)]) ?_
  exact e_V (as := [aR 188]) (rest := []) (show decode (mC 184) 587 = .ok (.invokevirtual 216, 3) by decide +kernel) (by decide +kernel) (show (decide ((1 : Nat) = mA 183) && decide (183 < q_law)) = true by decide +kernel) rfl (show (0 : Nat) ≤ 8 by decide) (show (1 : Nat) ≤ mL 183 by decide +kernel) rfl (sh_ok hG (by decide +kernel)) m0
/-- SoulOfficeModel.line()Z, from 590 -/
theorem b184_590 (hG : Shp G) {v1 u0 x1 x2 x3 x4 : Int} (hQ : ∀ o o' h', q_eqo o o' → Q o h' → Q o' h')
    (s0 : -2147483648 ≤ u0 ∧ u0 < 2147483648)
    (ex1 : c 188 18 = x1)
    (s2 : (¬ u0 = 0) → -2147483648 ≤ v1 ∧ v1 < 2147483648)
    (s3 : (¬ u0 = 0) → -2147483648 ≤ x1 ∧ x1 < 2147483648)
    (m4 : (¬ u0 = 0) → (v1 = x1) → TM d 173 [aR 188, aI 3] (G, c) (fun r h' => T (d + 1) 184 628 [none, none, none] (r.toList ++ []) h' Q))
    (ex2 : c 188 18 = x2)
    (s6 : (¬ u0 = 0) → (¬ v1 = x1) → 0 ≤ ((67 + (8 * v1)) + x2))
    (s7 : (¬ u0 = 0) → (¬ v1 = x1) → ((67 + (8 * v1)) + x2) < 168)
    (ex3 : c 191 ((67 + (8 * v1)) + x2) = x3)
    (s9 : (¬ u0 = 0) → (¬ v1 = x1) → -2147483648 ≤ x3 ∧ x3 < 2147483648)
    (ex4 : c 188 18 = x4)
    (m11 : (¬ u0 = 0) → (¬ v1 = x1) → (x3 ≤ 0) → TM d 172 [aR 188] (G, c) (fun r h' => T (d + 1) 184 646 [some (aR 188), none, some (aI ((67 + (8 * v1)) + x4))] (r.toList ++ []) h' Q))
    (m12 : (¬ u0 = 0) → (¬ v1 = x1) → (0 < x3) → TM d 173 [aR 188, aI 3] (G, c) (fun r h' => T (d + 1) 184 628 [none, none, none] (r.toList ++ []) h' Q))
    (z13 : (u0 = 0) → Q (.inl (some (aI 0))) (G, c)) :
    T (d + 1) 184 590 [some (aR 188), some (aI v1), none] [aI u0] (G, c) Q := by
  refine e_ne1 (t := 595) (show decode (mC 184) 590 = .ok (.ifCond .ne 5, 3) by decide +kernel) (by decide) s0 (fun p1 => ?_) (fun p1 => ?_)
  · refine e_L (L' := [some (aR 188), some (aI v1), none]) (st' := [aI v1]) (show decode (mC 184) 595 = .ok (.iload_n 1, 1) by decide +kernel) rfl rfl ?_
    refine e_L (L' := [some (aR 188), some (aI v1), none]) (st' := [aR 188, aI v1]) (show decode (mC 184) 596 = .ok (.aload_n 0, 1) by decide +kernel) rfl (by show (if 188 = 0 then none else some (_, _)) = _; rw [if_neg (by decide)]) ?_
    refine e_getIx (show decode (mC 184) 597 = .ok (.getfield 188, 3) by decide +kernel) (show pl 12 188 = some (0, 12, 18, 0) by decide +kernel) (by decide) (sh_ok hG (by decide +kernel)) ex1 ?_
    refine e_eq2 (t := 623) (show decode (mC 184) 600 = .ok (.if_icmp .eq 23, 3) by decide +kernel) (by decide) (s2 p1) (s3 p1) (fun p2 => ?_) (fun p2 => ?_)
    · refine e_L (L' := [some (aR 188), some (aI v1), none]) (st' := [aR 188]) (show decode (mC 184) 623 = .ok (.aload_n 0, 1) by decide +kernel) rfl (by show (if 188 = 0 then none else some (_, _)) = _; rw [if_neg (by decide)]) ?_
      refine e_P (st' := [aI 3, aR 188]) (show decode (mC 184) 624 = .ok (.iconst 3, 1) by decide +kernel) rfl rfl rfl ?_
      exact e_V (as := [aR 188, aI 3]) (rest := []) (show decode (mC 184) 625 = .ok (.invokevirtual 178, 3) by decide +kernel) (by decide +kernel) (show (decide ((2 : Nat) = mA 173) && decide (173 < q_law)) = true by decide +kernel) rfl (show (0 : Nat) ≤ 8 by decide) (show (2 : Nat) ≤ mL 173 by decide +kernel) rfl (sh_ok hG (by decide +kernel)) (tm_le hQ (leN (leN (leS leE))) (m4 p1 p2))
    · refine e_L (L' := [some (aR 188), some (aI v1), none]) (st' := [aR 188]) (show decode (mC 184) 603 = .ok (.aload_n 0, 1) by decide +kernel) rfl (by show (if 188 = 0 then none else some (_, _)) = _; rw [if_neg (by decide)]) ?_
      refine e_getR (w := 191) (show decode (mC 184) 604 = .ok (.getfield 37, 3) by decide +kernel) (show pl 12 37 = some (0, 12, 7, 0) by decide +kernel) (by decide) (sh_ok hG (by decide +kernel)) (sh_rf hG (by decide +kernel)) ?_
      refine e_P (st' := [aI 67, aR 191]) (show decode (mC 184) 607 = .ok (.bipush 67, 2) by decide +kernel) rfl rfl rfl ?_
      refine e_P (st' := [aI 8, aI 67, aR 191]) (show decode (mC 184) 609 = .ok (.bipush 8, 2) by decide +kernel) rfl rfl rfl ?_
      refine e_L (L' := [some (aR 188), some (aI v1), none]) (st' := [aI v1, aI 8, aI 67, aR 191]) (show decode (mC 184) 611 = .ok (.iload_n 1, 1) by decide +kernel) rfl rfl ?_
      refine e_P (st' := [aI (8 * v1), aI 67, aR 191]) (show decode (mC 184) 612 = .ok (.imul, 1) by decide +kernel) rfl rfl rfl ?_
      refine e_P (st' := [aI (67 + (8 * v1)), aR 191]) (show decode (mC 184) 613 = .ok (.iadd, 1) by decide +kernel) rfl rfl rfl ?_
      refine e_L (L' := [some (aR 188), some (aI v1), none]) (st' := [aR 188, aI (67 + (8 * v1)), aR 191]) (show decode (mC 184) 614 = .ok (.aload_n 0, 1) by decide +kernel) rfl (by show (if 188 = 0 then none else some (_, _)) = _; rw [if_neg (by decide)]) ?_
      refine e_getIx (show decode (mC 184) 615 = .ok (.getfield 188, 3) by decide +kernel) (show pl 12 188 = some (0, 12, 18, 0) by decide +kernel) (by decide) (sh_ok hG (by decide +kernel)) ex2 ?_
      refine e_P (st' := [aI ((67 + (8 * v1)) + x2), aR 191]) (show decode (mC 184) 618 = .ok (.iadd, 1) by decide +kernel) rfl rfl rfl ?_
      refine e_ialdx (n := 168) (show decode (mC 184) 619 = .ok (.iaload, 1) by decide +kernel) (sh_ok hG (by decide +kernel)) (sh_ln hG (by decide +kernel)) (by decide) (s6 p1 p2) (s7 p1 p2) ex3 ?_
      refine e_le1 (t := 629) (show decode (mC 184) 620 = .ok (.ifCond .le 9, 3) by decide +kernel) (by decide) (s9 p1 p2) (fun p3 => ?_) (fun p3 => ?_)
      · refine e_P (st' := [aI 67]) (show decode (mC 184) 629 = .ok (.bipush 67, 2) by decide +kernel) rfl rfl rfl ?_
        refine e_P (st' := [aI 8, aI 67]) (show decode (mC 184) 631 = .ok (.bipush 8, 2) by decide +kernel) rfl rfl rfl ?_
        refine e_L (L' := [some (aR 188), some (aI v1), none]) (st' := [aI v1, aI 8, aI 67]) (show decode (mC 184) 633 = .ok (.iload_n 1, 1) by decide +kernel) rfl rfl ?_
        refine e_P (st' := [aI (8 * v1), aI 67]) (show decode (mC 184) 634 = .ok (.imul, 1) by decide +kernel) rfl rfl rfl ?_
        refine e_P (st' := [aI (67 + (8 * v1))]) (show decode (mC 184) 635 = .ok (.iadd, 1) by decide +kernel) rfl rfl rfl ?_
        refine e_L (L' := [some (aR 188), some (aI v1), none]) (st' := [aR 188, aI (67 + (8 * v1))]) (show decode (mC 184) 636 = .ok (.aload_n 0, 1) by decide +kernel) rfl (by show (if 188 = 0 then none else some (_, _)) = _; rw [if_neg (by decide)]) ?_
        refine e_getIx (show decode (mC 184) 637 = .ok (.getfield 188, 3) by decide +kernel) (show pl 12 188 = some (0, 12, 18, 0) by decide +kernel) (by decide) (sh_ok hG (by decide +kernel)) ex4 ?_
        refine e_P (st' := [aI ((67 + (8 * v1)) + x4)]) (show decode (mC 184) 640 = .ok (.iadd, 1) by decide +kernel) rfl rfl rfl ?_
        refine e_L (L' := [some (aR 188), some (aI v1), some (aI ((67 + (8 * v1)) + x4))]) (st' := []) (show decode (mC 184) 641 = .ok (.istore_n 2, 1) by decide +kernel) rfl rfl ?_
        refine e_L (L' := [some (aR 188), some (aI v1), some (aI ((67 + (8 * v1)) + x4))]) (st' := [aR 188]) (show decode (mC 184) 642 = .ok (.aload_n 0, 1) by decide +kernel) rfl (by show (if 188 = 0 then none else some (_, _)) = _; rw [if_neg (by decide)]) ?_
        exact e_V (as := [aR 188]) (rest := []) (show decode (mC 184) 643 = .ok (.invokevirtual 181, 3) by decide +kernel) (by decide +kernel) (show (decide ((1 : Nat) = mA 172) && decide (172 < q_law)) = true by decide +kernel) rfl (show (0 : Nat) ≤ 8 by decide) (show (1 : Nat) ≤ mL 172 by decide +kernel) rfl (sh_ok hG (by decide +kernel)) (tm_le hQ (leS (leN (leS leE))) (m11 p1 p2 p3))
      · refine e_L (L' := [some (aR 188), some (aI v1), none]) (st' := [aR 188]) (show decode (mC 184) 623 = .ok (.aload_n 0, 1) by decide +kernel) rfl (by show (if 188 = 0 then none else some (_, _)) = _; rw [if_neg (by decide)]) ?_
        refine e_P (st' := [aI 3, aR 188]) (show decode (mC 184) 624 = .ok (.iconst 3, 1) by decide +kernel) rfl rfl rfl ?_
        exact e_V (as := [aR 188, aI 3]) (rest := []) (show decode (mC 184) 625 = .ok (.invokevirtual 178, 3) by decide +kernel) (by decide +kernel) (show (decide ((2 : Nat) = mA 173) && decide (173 < q_law)) = true by decide +kernel) rfl (show (0 : Nat) ≤ 8 by decide) (show (2 : Nat) ≤ mL 173 by decide +kernel) rfl (sh_ok hG (by decide +kernel)) (tm_le hQ (leN (leN (leS leE))) (m12 p1 p2 p3))
  · refine e_P (st' := [aI 0]) (show decode (mC 184) 593 = .ok (.iconst 0, 1) by decide +kernel) rfl rfl rfl ?_
    exact e_zret (show decode (mC 184) 594 = .ok (.ireturn, 1) by decide +kernel) rfl (by decide) (z13 p1)
/-- SoulOfficeModel.line()Z, from 628 -/
theorem b184_628 (hG : Shp G) {u0 : Int}
    (s0 : u0 = 0 ∨ u0 = 1)
    (z1 : Q (.inl (some (aI u0))) (G, c)) :
    T (d + 1) 184 628 [none, none, none] [aI u0] (G, c) Q := by
  exact e_zret (show decode (mC 184) 628 = .ok (.ireturn, 1) by decide +kernel) rfl s0 z1
/-- SoulOfficeModel.line()Z, from 646 -/
theorem b184_646 (hG : Shp G) {v2 : Int}
    (m0 : TM d 178 [aR 188, aI 1, aI 999] (G, c) (fun r h' => T (d + 1) 184 654 [some (aR 188), none, some (aI v2)] (r.toList ++ []) h' Q)) :
    T (d + 1) 184 646 [some (aR 188), none, some (aI v2)] [] (G, c) Q := by
  refine e_L (L' := [some (aR 188), none, some (aI v2)]) (st' := [aR 188]) (show decode (mC 184) 646 = .ok (.aload_n 0, 1) by decide +kernel) rfl (by show (if 188 = 0 then none else some (_, _)) = _; rw [if_neg (by decide)]) ?_
  refine e_P (st' := [aI 1, aR 188]) (show decode (mC 184) 647 = .ok (.iconst 1, 1) by decide +kernel) rfl rfl rfl ?_
  refine e_P (st' := [aI 999, aI 1, aR 188]) (show decode (mC 184) 648 = .ok (.sipush 999, 3) by decide +kernel) rfl rfl rfl ?_
  exact e_V (as := [aR 188, aI 1, aI 999]) (rest := []) (show decode (mC 184) 651 = .ok (.invokevirtual 210, 3) by decide +kernel) (by decide +kernel) (show (decide ((3 : Nat) = mA 178) && decide (178 < q_law)) = true by decide +kernel) rfl (show (0 : Nat) ≤ 8 by decide) (show (3 : Nat) ≤ mL 178 by decide +kernel) rfl (sh_ok hG (by decide +kernel)) m0
/-- SoulOfficeModel.line()Z, from 654 -/
theorem b184_654 (hG : Shp G) {v2 u0 x1 : Int}
    (s0 : -2147483648 ≤ u0 ∧ u0 < 2147483648)
    (ex1 : c 188 18 = x1)
    (s2 : (¬ u0 = 0) → 0 ≤ v2)
    (s3 : (¬ u0 = 0) → v2 < 168)
    (z4 : (¬ u0 = 0) → Q (.inl (some (aI 1))) (G, (q_up c 191 v2 x1)))
    (z5 : (u0 = 0) → Q (.inl (some (aI 0))) (G, c)) :
    T (d + 1) 184 654 [some (aR 188), none, some (aI v2)] [aI u0] (G, c) Q := by
  refine e_ne1 (t := 659) (show decode (mC 184) 654 = .ok (.ifCond .ne 5, 3) by decide +kernel) (by decide) s0 (fun p1 => ?_) (fun p1 => ?_)
  · refine e_L (L' := [some (aR 188), none, some (aI v2)]) (st' := [aR 188]) (show decode (mC 184) 659 = .ok (.aload_n 0, 1) by decide +kernel) rfl (by show (if 188 = 0 then none else some (_, _)) = _; rw [if_neg (by decide)]) ?_
    refine e_getR (w := 191) (show decode (mC 184) 660 = .ok (.getfield 37, 3) by decide +kernel) (show pl 12 37 = some (0, 12, 7, 0) by decide +kernel) (by decide) (sh_ok hG (by decide +kernel)) (sh_rf hG (by decide +kernel)) ?_
    refine e_L (L' := [some (aR 188), none, some (aI v2)]) (st' := [aI v2, aR 191]) (show decode (mC 184) 663 = .ok (.iload_n 2, 1) by decide +kernel) rfl rfl ?_
    refine e_L (L' := [some (aR 188), none, some (aI v2)]) (st' := [aR 188, aI v2, aR 191]) (show decode (mC 184) 664 = .ok (.aload_n 0, 1) by decide +kernel) rfl (by show (if 188 = 0 then none else some (_, _)) = _; rw [if_neg (by decide)]) ?_
    refine e_getIx (show decode (mC 184) 665 = .ok (.getfield 188, 3) by decide +kernel) (show pl 12 188 = some (0, 12, 18, 0) by decide +kernel) (by decide) (sh_ok hG (by decide +kernel)) ex1 ?_
    refine e_iast (n := 168) (show decode (mC 184) 668 = .ok (.iastore, 1) by decide +kernel) (sh_ok hG (by decide +kernel)) (sh_ln hG (by decide +kernel)) (by decide) (s2 p1) (s3 p1) ?_
    refine e_P (st' := [aI 1]) (show decode (mC 184) 669 = .ok (.iconst 1, 1) by decide +kernel) rfl rfl rfl ?_
    exact e_zret (show decode (mC 184) 670 = .ok (.ireturn, 1) by decide +kernel) rfl (by decide) (z4 p1)
  · refine e_P (st' := [aI 0]) (show decode (mC 184) 657 = .ok (.iconst 0, 1) by decide +kernel) rfl rfl rfl ?_
    exact e_zret (show decode (mC 184) 658 = .ok (.ireturn, 1) by decide +kernel) rfl (by decide) (z5 p1)
/-- SoulOfficeModel.line()Z, from 678 -/
theorem b184_678 (hG : Shp G) {u0 x1 : Int} (hQ : ∀ o o' h', q_eqo o o' → Q o h' → Q o' h')
    (s0 : -2147483648 ≤ u0 ∧ u0 < 2147483648)
    (ex1 : c 188 20 = x1)
    (s2 : (¬ u0 = 0) → -2147483648 ≤ x1 ∧ x1 < 2147483648)
    (m3 : (¬ u0 = 0) → (x1 = 0) → TM d 172 [aR 188] (G, (q_up c 188 20 1)) (fun r h' => T (d + 1) 184 709 [some (aR 188), none, none] (r.toList ++ []) h' Q))
    (m4 : (¬ u0 = 0) → (¬ x1 = 0) → TM d 173 [aR 188, aI 3] (G, c) (fun r h' => T (d + 1) 184 699 [none, none, none] (r.toList ++ []) h' Q))
    (m5 : (u0 = 0) → TM d 173 [aR 188, aI 1] (G, c) (fun r h' => T (d + 1) 184 686 [none, none, none] (r.toList ++ []) h' Q)) :
    T (d + 1) 184 678 [some (aR 188), none, none] [aI u0] (G, c) Q := by
  refine e_ne1 (t := 687) (show decode (mC 184) 678 = .ok (.ifCond .ne 9, 3) by decide +kernel) (by decide) s0 (fun p1 => ?_) (fun p1 => ?_)
  · refine e_L (L' := [some (aR 188), none, none]) (st' := [aR 188]) (show decode (mC 184) 687 = .ok (.aload_n 0, 1) by decide +kernel) rfl (by show (if 188 = 0 then none else some (_, _)) = _; rw [if_neg (by decide)]) ?_
    refine e_getIx (show decode (mC 184) 688 = .ok (.getfield 222, 3) by decide +kernel) (show pl 12 222 = some (0, 12, 20, 0) by decide +kernel) (by decide) (sh_ok hG (by decide +kernel)) ex1 ?_
    refine e_eq1 (t := 700) (show decode (mC 184) 691 = .ok (.ifCond .eq 9, 3) by decide +kernel) (by decide) (s2 p1) (fun p2 => ?_) (fun p2 => ?_)
    · refine e_L (L' := [some (aR 188), none, none]) (st' := [aR 188]) (show decode (mC 184) 700 = .ok (.aload_n 0, 1) by decide +kernel) rfl (by show (if 188 = 0 then none else some (_, _)) = _; rw [if_neg (by decide)]) ?_
      refine e_P (st' := [aI 1, aR 188]) (show decode (mC 184) 701 = .ok (.iconst 1, 1) by decide +kernel) rfl rfl rfl ?_
      refine e_putZ (show decode (mC 184) 702 = .ok (.putfield 222, 3) by decide +kernel) (show pl 12 222 = some (0, 12, 20, 0) by decide +kernel) (by decide) (sh_ok hG (by decide +kernel)) (by decide) ?_
      refine e_L (L' := [some (aR 188), none, none]) (st' := [aR 188]) (show decode (mC 184) 705 = .ok (.aload_n 0, 1) by decide +kernel) rfl (by show (if 188 = 0 then none else some (_, _)) = _; rw [if_neg (by decide)]) ?_
      exact e_V (as := [aR 188]) (rest := []) (show decode (mC 184) 706 = .ok (.invokevirtual 181, 3) by decide +kernel) (by decide +kernel) (show (decide ((1 : Nat) = mA 172) && decide (172 < q_law)) = true by decide +kernel) rfl (show (0 : Nat) ≤ 8 by decide) (show (1 : Nat) ≤ mL 172 by decide +kernel) rfl (sh_ok hG (by decide +kernel)) (m3 p1 p2)
    · refine e_L (L' := [some (aR 188), none, none]) (st' := [aR 188]) (show decode (mC 184) 694 = .ok (.aload_n 0, 1) by decide +kernel) rfl (by show (if 188 = 0 then none else some (_, _)) = _; rw [if_neg (by decide)]) ?_
      refine e_P (st' := [aI 3, aR 188]) (show decode (mC 184) 695 = .ok (.iconst 3, 1) by decide +kernel) rfl rfl rfl ?_
      exact e_V (as := [aR 188, aI 3]) (rest := []) (show decode (mC 184) 696 = .ok (.invokevirtual 178, 3) by decide +kernel) (by decide +kernel) (show (decide ((2 : Nat) = mA 173) && decide (173 < q_law)) = true by decide +kernel) rfl (show (0 : Nat) ≤ 8 by decide) (show (2 : Nat) ≤ mL 173 by decide +kernel) rfl (sh_ok hG (by decide +kernel)) (tm_le hQ (leN (leS (leS leE))) (m4 p1 p2))
  · refine e_L (L' := [some (aR 188), none, none]) (st' := [aR 188]) (show decode (mC 184) 681 = .ok (.aload_n 0, 1) by decide +kernel) rfl (by show (if 188 = 0 then none else some (_, _)) = _; rw [if_neg (by decide)]) ?_
    refine e_P (st' := [aI 1, aR 188]) (show decode (mC 184) 682 = .ok (.iconst 1, 1) by decide +kernel) rfl rfl rfl ?_
    exact e_V (as := [aR 188, aI 1]) (rest := []) (show decode (mC 184) 683 = .ok (.invokevirtual 178, 3) by decide +kernel) (by decide +kernel) (show (decide ((2 : Nat) = mA 173) && decide (173 < q_law)) = true by decide +kernel) rfl (show (0 : Nat) ≤ 8 by decide) (show (2 : Nat) ≤ mL 173 by decide +kernel) rfl (sh_ok hG (by decide +kernel)) (tm_le hQ (leN (leS (leS leE))) (m5 p1))
end QB24
