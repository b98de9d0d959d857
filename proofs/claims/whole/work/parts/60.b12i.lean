section QB30
variable {d : Nat} {G : GG} {c : CC} {Q : OO → HH → Prop}
/-- SoulOfficeModel.nextAppeal(I)Z, from 0 -/
theorem b234_0 (hG : Shp G) {v1 : Int} (hQ : ∀ o o' h', q_eqo o o' → Q o h' → Q o' h')
    (k0 : T d 234 4 [some (aR 188), none, some (aI (v1 - 1))] [] (G, c) Q) :
    T d 234 0 [some (aR 188), some (aI v1), none] [] (G, c) Q := by
  refine e_L (L' := [some (aR 188), some (aI v1), none]) (st' := [aI v1]) (show decode (mC 234) 0 = .ok (.iload_n 1, 1) by decide +kernel) rfl rfl ?_
  refine e_P (st' := [aI 1, aI v1]) (show decode (mC 234) 1 = .ok (.iconst 1, 1) by decide +kernel) rfl rfl rfl ?_
  refine e_P (st' := [aI (v1 - 1)]) (show decode (mC 234) 2 = .ok (.isub, 1) by decide +kernel) rfl rfl rfl ?_
  refine e_L (L' := [some (aR 188), some (aI v1), some (aI (v1 - 1))]) (st' := []) (show decode (mC 234) 3 = .ok (.istore_n 2, 1) by decide +kernel) rfl rfl ?_
  exact T_le hQ (leS (leN (leS leE))) k0
/-- SoulOfficeModel.nextAppeal(I)Z, from 4 -/
theorem b234_4 (hG : Shp G) {v2 x1 x2 x3 : Int}
    (s0 : -2147483648 ≤ v2 ∧ v2 < 2147483648)
    (z1 : (v2 < 0) → Q (.inl (some (aI 0))) (G, c))
    (s2 : (0 ≤ v2) → 0 ≤ v2)
    (s3 : (0 ≤ v2) → v2 < 8)
    (ex1 : c 198 v2 = x1)
    (ex2 : (q_up c 198 v2 (x1 + 1)) 198 v2 = x2)
    (ex3 : (q_up c 198 v2 (x1 + 1)) 190 0 = x3)
    (s7 : (0 ≤ v2) → -2147483648 ≤ x2 ∧ x2 < 2147483648)
    (s8 : (0 ≤ v2) → -2147483648 ≤ x3 ∧ x3 < 2147483648)
    (k9 : (0 ≤ v2) → (x3 ≤ x2) → T d 234 4 [some (aR 188), none, some (aI (v2 + (-1)))] [] (G, (q_up (q_up c 198 v2 (x1 + 1)) 198 v2 0)) Q)
    (z10 : (0 ≤ v2) → (x2 < x3) → Q (.inl (some (aI 1))) (G, (q_up c 198 v2 (x1 + 1)))) :
    T d 234 4 [some (aR 188), none, some (aI v2)] [] (G, c) Q := by
  refine e_L (L' := [some (aR 188), none, some (aI v2)]) (st' := [aI v2]) (show decode (mC 234) 4 = .ok (.iload_n 2, 1) by decide +kernel) rfl rfl ?_
  refine e_lt1 (t := 48) (show decode (mC 234) 5 = .ok (.ifCond .lt 43, 3) by decide +kernel) (by decide) s0 (fun p1 => ?_) (fun p1 => ?_)
  · refine e_P (st' := [aI 0]) (show decode (mC 234) 48 = .ok (.iconst 0, 1) by decide +kernel) rfl rfl rfl ?_
    exact e_zret (show decode (mC 234) 49 = .ok (.ireturn, 1) by decide +kernel) rfl (by decide) (z1 p1)
  · refine e_L (L' := [some (aR 188), none, some (aI v2)]) (st' := [aR 188]) (show decode (mC 234) 8 = .ok (.aload_n 0, 1) by decide +kernel) rfl (by show (if 188 = 0 then none else some (_, _)) = _; rw [if_neg (by decide)]) ?_
    refine e_getR (w := 198) (show decode (mC 234) 9 = .ok (.getfield 59, 3) by decide +kernel) (show pl 12 59 = some (0, 12, 25, 0) by decide +kernel) (by decide) (sh_ok hG (by decide +kernel)) (sh_rf hG (by decide +kernel)) ?_
    refine e_L (L' := [some (aR 188), none, some (aI v2)]) (st' := [aI v2, aR 198]) (show decode (mC 234) 12 = .ok (.iload_n 2, 1) by decide +kernel) rfl rfl ?_
    refine e_P (st' := [aI v2, aR 198, aI v2, aR 198]) (show decode (mC 234) 13 = .ok (.dup2, 1) by decide +kernel) rfl rfl rfl ?_
    refine e_ialdx (n := 8) (show decode (mC 234) 14 = .ok (.iaload, 1) by decide +kernel) (sh_ok hG (by decide +kernel)) (sh_ln hG (by decide +kernel)) (by decide) (s2 p1) (s3 p1) ex1 ?_
    refine e_P (st' := [aI 1, aI x1, aI v2, aR 198]) (show decode (mC 234) 15 = .ok (.iconst 1, 1) by decide +kernel) rfl rfl rfl ?_
    refine e_P (st' := [aI (x1 + 1), aI v2, aR 198]) (show decode (mC 234) 16 = .ok (.iadd, 1) by decide +kernel) rfl rfl rfl ?_
    refine e_iast (n := 8) (show decode (mC 234) 17 = .ok (.iastore, 1) by decide +kernel) (sh_ok hG (by decide +kernel)) (sh_ln hG (by decide +kernel)) (by decide) (s2 p1) (s3 p1) ?_
    refine e_L (L' := [some (aR 188), none, some (aI v2)]) (st' := [aR 188]) (show decode (mC 234) 18 = .ok (.aload_n 0, 1) by decide +kernel) rfl (by show (if 188 = 0 then none else some (_, _)) = _; rw [if_neg (by decide)]) ?_
    refine e_getR (w := 198) (show decode (mC 234) 19 = .ok (.getfield 59, 3) by decide +kernel) (show pl 12 59 = some (0, 12, 25, 0) by decide +kernel) (by decide) (sh_ok hG (by decide +kernel)) (sh_rf hG (by decide +kernel)) ?_
    refine e_L (L' := [some (aR 188), none, some (aI v2)]) (st' := [aI v2, aR 198]) (show decode (mC 234) 22 = .ok (.iload_n 2, 1) by decide +kernel) rfl rfl ?_
    refine e_ialdx (n := 8) (show decode (mC 234) 23 = .ok (.iaload, 1) by decide +kernel) (sh_ok hG (by decide +kernel)) (sh_ln hG (by decide +kernel)) (by decide) (s2 p1) (s3 p1) ex2 ?_
    refine e_L (L' := [some (aR 188), none, some (aI v2)]) (st' := [aR 188, aI x2]) (show decode (mC 234) 24 = .ok (.aload_n 0, 1) by decide +kernel) rfl (by show (if 188 = 0 then none else some (_, _)) = _; rw [if_neg (by decide)]) ?_
    refine e_getR (w := 190) (show decode (mC 234) 25 = .ok (.getfield 33, 3) by decide +kernel) (show pl 12 33 = some (0, 12, 6, 0) by decide +kernel) (by decide) (sh_ok hG (by decide +kernel)) (sh_rf hG (by decide +kernel)) ?_
    refine e_P (st' := [aI 0, aR 190, aI x2]) (show decode (mC 234) 28 = .ok (.iconst 0, 1) by decide +kernel) rfl rfl rfl ?_
    refine e_ialdx (n := 514) (show decode (mC 234) 29 = .ok (.iaload, 1) by decide +kernel) (sh_ok hG (by decide +kernel)) (sh_ln hG (by decide +kernel)) (by decide) (by decide) (by decide) ex3 ?_
    refine e_ge2 (t := 35) (show decode (mC 234) 30 = .ok (.if_icmp .ge 5, 3) by decide +kernel) (by decide) (s7 p1) (s8 p1) (fun p2 => ?_) (fun p2 => ?_)
    · refine e_L (L' := [some (aR 188), none, some (aI v2)]) (st' := [aR 188]) (show decode (mC 234) 35 = .ok (.aload_n 0, 1) by decide +kernel) rfl (by show (if 188 = 0 then none else some (_, _)) = _; rw [if_neg (by decide)]) ?_
      refine e_getR (w := 198) (show decode (mC 234) 36 = .ok (.getfield 59, 3) by decide +kernel) (show pl 12 59 = some (0, 12, 25, 0) by decide +kernel) (by decide) (sh_ok hG (by decide +kernel)) (sh_rf hG (by decide +kernel)) ?_
      refine e_L (L' := [some (aR 188), none, some (aI v2)]) (st' := [aI v2, aR 198]) (show decode (mC 234) 39 = .ok (.iload_n 2, 1) by decide +kernel) rfl rfl ?_
      refine e_P (st' := [aI 0, aI v2, aR 198]) (show decode (mC 234) 40 = .ok (.iconst 0, 1) by decide +kernel) rfl rfl rfl ?_
      refine e_iast (n := 8) (show decode (mC 234) 41 = .ok (.iastore, 1) by decide +kernel) (sh_ok hG (by decide +kernel)) (sh_ln hG (by decide +kernel)) (by decide) (s2 p1) (s3 p1) ?_
      refine e_L (L' := [some (aR 188), none, some (aI (v2 + (-1)))]) (st' := []) (show decode (mC 234) 42 = .ok (.iinc 2 (-1), 3) by decide +kernel) rfl rfl ?_
      refine e_go (t := 4) (show decode (mC 234) 45 = .ok (.goto (-41), 3) by decide +kernel) (by decide) ?_
      exact (k9 p1 p2)
    · refine e_P (st' := [aI 1]) (show decode (mC 234) 33 = .ok (.iconst 1, 1) by decide +kernel) rfl rfl rfl ?_
      exact e_zret (show decode (mC 234) 34 = .ok (.ireturn, 1) by decide +kernel) rfl (by decide) (z10 p1 p2)
/-- SoulOfficeModel.appealOf(II)I, from 0 -/
theorem b235_0 (hG : Shp G) {v1 v2 : Int}
    (m0 : TM d 188 [aR 188, aI v1] (G, c) (fun r h' => T (d + 1) 235 5 [some (aR 188), some (aI v1), some (aI v2), none, none, none, none] (r.toList ++ []) h' Q)) :
    T (d + 1) 235 0 [some (aR 188), some (aI v1), some (aI v2), none, none, none, none] [] (G, c) Q := by
  refine e_L (L' := [some (aR 188), some (aI v1), some (aI v2), none, none, none, none]) (st' := [aR 188]) (show decode (mC 235) 0 = .ok (.aload_n 0, 1) by decide +kernel) rfl (by show (if 188 = 0 then none else some (_, _)) = _; rw [if_neg (by decide)]) ?_
  refine e_L (L' := [some (aR 188), some (aI v1), some (aI v2), none, none, none, none]) (st' := [aI v1, aR 188]) (show decode (mC 235) 1 = .ok (.iload_n 1, 1) by decide +kernel) rfl rfl ?_
  exact e_V (as := [aR 188, aI v1]) (rest := []) (show decode (mC 235) 2 = .ok (.invokevirtual 248, 3) by decide +kernel) (by decide +kernel) (show (decide ((2 : Nat) = mA 188) && decide (188 < q_law)) = true by decide +kernel) rfl (show (0 : Nat) ≤ 8 by decide) (show (2 : Nat) ≤ mL 188 by decide +kernel) rfl (sh_ok hG (by decide +kernel)) m0
/-- SoulOfficeModel.appealOf(II)I, from 5 -/
theorem b235_5 (hG : Shp G) {v1 v2 u0 : Int}
    (s0 : -2147483648 ≤ u0 ∧ u0 < 2147483648)
    (z1 : (u0 = 0) → Q (.inl (some (aI (-1)))) (G, c))
    (m2 : (¬ u0 = 0) → TM d 187 [aR 188, aI v2] (G, c) (fun r h' => T (d + 1) 235 13 [some (aR 188), some (aI v1), some (aI v2), none, none, none, none] (r.toList ++ []) h' Q)) :
    T (d + 1) 235 5 [some (aR 188), some (aI v1), some (aI v2), none, none, none, none] [aI u0] (G, c) Q := by
  refine e_eq1 (t := 45) (show decode (mC 235) 5 = .ok (.ifCond .eq 40, 3) by decide +kernel) (by decide) s0 (fun p1 => ?_) (fun p1 => ?_)
  · refine e_P (st' := [aI (-1)]) (show decode (mC 235) 45 = .ok (.iconst (-1), 1) by decide +kernel) rfl rfl rfl ?_
    exact e_iret (show decode (mC 235) 46 = .ok (.ireturn, 1) by decide +kernel) rfl (z1 p1)
  · refine e_L (L' := [some (aR 188), some (aI v1), some (aI v2), none, none, none, none]) (st' := [aR 188]) (show decode (mC 235) 8 = .ok (.aload_n 0, 1) by decide +kernel) rfl (by show (if 188 = 0 then none else some (_, _)) = _; rw [if_neg (by decide)]) ?_
    refine e_L (L' := [some (aR 188), some (aI v1), some (aI v2), none, none, none, none]) (st' := [aI v2, aR 188]) (show decode (mC 235) 9 = .ok (.iload_n 2, 1) by decide +kernel) rfl rfl ?_
    exact e_V (as := [aR 188, aI v2]) (rest := []) (show decode (mC 235) 10 = .ok (.invokevirtual 241, 3) by decide +kernel) (by decide +kernel) (show (decide ((2 : Nat) = mA 187) && decide (187 < q_law)) = true by decide +kernel) rfl (show (0 : Nat) ≤ 8 by decide) (show (2 : Nat) ≤ mL 187 by decide +kernel) rfl (sh_ok hG (by decide +kernel)) (m2 p1)
/-- SoulOfficeModel.appealOf(II)I, from 13 -/
theorem b235_13 (hG : Shp G) {v1 v2 u0 x1 x2 : Int}
    (s0 : -2147483648 ≤ u0 ∧ u0 < 2147483648)
    (z1 : (u0 = 0) → Q (.inl (some (aI (-1)))) (G, c))
    (s2 : (¬ u0 = 0) → 0 ≤ (197 + v1))
    (s3 : (¬ u0 = 0) → (197 + v1) < 514)
    (ex1 : c 190 (197 + v1) = x1)
    (s5 : (¬ u0 = 0) → -2147483648 ≤ x1 ∧ x1 < 2147483648)
    (z6 : (¬ u0 = 0) → (x1 = 0) → Q (.inl (some (aI (-1)))) (G, c))
    (s7 : (¬ u0 = 0) → (¬ x1 = 0) → 0 ≤ (51 + v1))
    (s8 : (¬ u0 = 0) → (¬ x1 = 0) → (51 + v1) < 514)
    (ex2 : c 190 (51 + v1) = x2)
    (m10 : (¬ u0 = 0) → (¬ x1 = 0) → TM d 165 [aI x2, aI v2] (G, c) (fun r h' => T (d + 1) 235 42 [some (aR 188), some (aI v1), some (aI v2), none, none, none, none] (r.toList ++ []) h' Q)) :
    T (d + 1) 235 13 [some (aR 188), some (aI v1), some (aI v2), none, none, none, none] [aI u0] (G, c) Q := by
  refine e_eq1 (t := 45) (show decode (mC 235) 13 = .ok (.ifCond .eq 32, 3) by decide +kernel) (by decide) s0 (fun p1 => ?_) (fun p1 => ?_)
  · refine e_P (st' := [aI (-1)]) (show decode (mC 235) 45 = .ok (.iconst (-1), 1) by decide +kernel) rfl rfl rfl ?_
    exact e_iret (show decode (mC 235) 46 = .ok (.ireturn, 1) by decide +kernel) rfl (z1 p1)
  · refine e_L (L' := [some (aR 188), some (aI v1), some (aI v2), none, none, none, none]) (st' := [aR 188]) (show decode (mC 235) 16 = .ok (.aload_n 0, 1) by decide +kernel) rfl (by show (if 188 = 0 then none else some (_, _)) = _; rw [if_neg (by decide)]) ?_
    refine e_getR (w := 190) (show decode (mC 235) 17 = .ok (.getfield 33, 3) by decide +kernel) (show pl 12 33 = some (0, 12, 6, 0) by decide +kernel) (by decide) (sh_ok hG (by decide +kernel)) (sh_rf hG (by decide +kernel)) ?_
    refine e_P (st' := [aI 197, aR 190]) (show decode (mC 235) 20 = .ok (.sipush 197, 3) by decide +kernel) rfl rfl rfl ?_
    refine e_L (L' := [some (aR 188), some (aI v1), some (aI v2), none, none, none, none]) (st' := [aI v1, aI 197, aR 190]) (show decode (mC 235) 23 = .ok (.iload_n 1, 1) by decide +kernel) rfl rfl ?_
    refine e_P (st' := [aI (197 + v1), aR 190]) (show decode (mC 235) 24 = .ok (.iadd, 1) by decide +kernel) rfl rfl rfl ?_
    refine e_ialdx (n := 514) (show decode (mC 235) 25 = .ok (.iaload, 1) by decide +kernel) (sh_ok hG (by decide +kernel)) (sh_ln hG (by decide +kernel)) (by decide) (s2 p1) (s3 p1) ex1 ?_
    refine e_eq1 (t := 45) (show decode (mC 235) 26 = .ok (.ifCond .eq 19, 3) by decide +kernel) (by decide) (s5 p1) (fun p2 => ?_) (fun p2 => ?_)
    · refine e_P (st' := [aI (-1)]) (show decode (mC 235) 45 = .ok (.iconst (-1), 1) by decide +kernel) rfl rfl rfl ?_
      exact e_iret (show decode (mC 235) 46 = .ok (.ireturn, 1) by decide +kernel) rfl (z6 p1 p2)
    · refine e_L (L' := [some (aR 188), some (aI v1), some (aI v2), none, none, none, none]) (st' := [aR 188]) (show decode (mC 235) 29 = .ok (.aload_n 0, 1) by decide +kernel) rfl (by show (if 188 = 0 then none else some (_, _)) = _; rw [if_neg (by decide)]) ?_
      refine e_getR (w := 190) (show decode (mC 235) 30 = .ok (.getfield 33, 3) by decide +kernel) (show pl 12 33 = some (0, 12, 6, 0) by decide +kernel) (by decide) (sh_ok hG (by decide +kernel)) (sh_rf hG (by decide +kernel)) ?_
      refine e_P (st' := [aI 51, aR 190]) (show decode (mC 235) 33 = .ok (.bipush 51, 2) by decide +kernel) rfl rfl rfl ?_
      refine e_L (L' := [some (aR 188), some (aI v1), some (aI v2), none, none, none, none]) (st' := [aI v1, aI 51, aR 190]) (show decode (mC 235) 35 = .ok (.iload_n 1, 1) by decide +kernel) rfl rfl ?_
      refine e_P (st' := [aI (51 + v1), aR 190]) (show decode (mC 235) 36 = .ok (.iadd, 1) by decide +kernel) rfl rfl rfl ?_
      refine e_ialdx (n := 514) (show decode (mC 235) 37 = .ok (.iaload, 1) by decide +kernel) (sh_ok hG (by decide +kernel)) (sh_ln hG (by decide +kernel)) (by decide) (s7 p1 p2) (s8 p1 p2) ex2 ?_
      refine e_L (L' := [some (aR 188), some (aI v1), some (aI v2), none, none, none, none]) (st' := [aI v2, aI x2]) (show decode (mC 235) 38 = .ok (.iload_n 2, 1) by decide +kernel) rfl rfl ?_
      exact e_S (as := [aI x2, aI v2]) (rest := []) (show decode (mC 235) 39 = .ok (.invokestatic 219, 3) by decide +kernel) (by decide +kernel) (show (decide ((2 : Nat) = mA 165) && decide (165 < q_law)) = true by decide +kernel) rfl (show (0 : Nat) ≤ 8 by decide) (show (2 : Nat) ≤ mL 165 by decide +kernel) (m10 p1 p2)
/-- SoulOfficeModel.appealOf(II)I, from 42 -/
theorem b235_42 (hG : Shp G) {v1 v2 u0 : Int}
    (s0 : -2147483648 ≤ u0 ∧ u0 < 2147483648)
    (k1 : (¬ u0 = 0) → T (d + 1) 235 52 [some (aR 188), some (aI v1), some (aI v2), some (aI 0), some (aI 0), none, none] [] (G, c) Q)
    (z2 : (u0 = 0) → Q (.inl (some (aI (-1)))) (G, c)) :
    T (d + 1) 235 42 [some (aR 188), some (aI v1), some (aI v2), none, none, none, none] [aI u0] (G, c) Q := by
  refine e_ne1 (t := 47) (show decode (mC 235) 42 = .ok (.ifCond .ne 5, 3) by decide +kernel) (by decide) s0 (fun p1 => ?_) (fun p1 => ?_)
  · refine e_P (st' := [aI 0]) (show decode (mC 235) 47 = .ok (.iconst 0, 1) by decide +kernel) rfl rfl rfl ?_
    refine e_L (L' := [some (aR 188), some (aI v1), some (aI v2), some (aI 0), none, none, none]) (st' := []) (show decode (mC 235) 48 = .ok (.istore_n 3, 1) by decide +kernel) rfl rfl ?_
    refine e_P (st' := [aI 0]) (show decode (mC 235) 49 = .ok (.iconst 0, 1) by decide +kernel) rfl rfl rfl ?_
    refine e_L (L' := [some (aR 188), some (aI v1), some (aI v2), some (aI 0), some (aI 0), none, none]) (st' := []) (show decode (mC 235) 50 = .ok (.istore 4, 2) by decide +kernel) rfl rfl ?_
    exact (k1 p1)
  · refine e_P (st' := [aI (-1)]) (show decode (mC 235) 45 = .ok (.iconst (-1), 1) by decide +kernel) rfl rfl rfl ?_
    exact e_iret (show decode (mC 235) 46 = .ok (.ireturn, 1) by decide +kernel) rfl (z2 p1)
/-- SoulOfficeModel.appealOf(II)I, from 52 -/
theorem b235_52 (hG : Shp G) {v1 v2 v3 v4 x1 x2 : Int}
    (ex1 : c 190 1 = x1)
    (s1 : -2147483648 ≤ v4 ∧ v4 < 2147483648)
    (s2 : -2147483648 ≤ x1 ∧ x1 < 2147483648)
    (k3 : (x1 ≤ v4) → T (d + 1) 235 110 [some (aR 188), some (aI v1), some (aI v2), some (aI v3), some (aI (-1)), some (aI 1), none] [] (G, c) Q)
    (s4 : (v4 < x1) → 0 ≤ (197 + v4))
    (s5 : (v4 < x1) → (197 + v4) < 514)
    (ex2 : c 190 (197 + v4) = x2)
    (s7 : (v4 < x1) → -2147483648 ≤ x2 ∧ x2 < 2147483648)
    (s8 : (v4 < x1) → (¬ x2 = 0) → 0 ≤ v3)
    (s9 : (v4 < x1) → (¬ x2 = 0) → v3 < 8)
    (k10 : (v4 < x1) → (¬ x2 = 0) → T (d + 1) 235 52 [some (aR 188), some (aI v1), some (aI v2), some (aI (v3 + 1)), some (aI (v4 + 1)), none, none] [] (G, (q_up (q_up c 197 v3 v4) 198 v3 0)) Q)
    (k11 : (v4 < x1) → (x2 = 0) → T (d + 1) 235 52 [some (aR 188), some (aI v1), some (aI v2), some (aI v3), some (aI (v4 + 1)), none, none] [] (G, c) Q) :
    T (d + 1) 235 52 [some (aR 188), some (aI v1), some (aI v2), some (aI v3), some (aI v4), none, none] [] (G, c) Q := by
  refine e_L (L' := [some (aR 188), some (aI v1), some (aI v2), some (aI v3), some (aI v4), none, none]) (st' := [aI v4]) (show decode (mC 235) 52 = .ok (.iload 4, 2) by decide +kernel) rfl rfl ?_
  refine e_L (L' := [some (aR 188), some (aI v1), some (aI v2), some (aI v3), some (aI v4), none, none]) (st' := [aR 188, aI v4]) (show decode (mC 235) 54 = .ok (.aload_n 0, 1) by decide +kernel) rfl (by show (if 188 = 0 then none else some (_, _)) = _; rw [if_neg (by decide)]) ?_
  refine e_getR (w := 190) (show decode (mC 235) 55 = .ok (.getfield 33, 3) by decide +kernel) (show pl 12 33 = some (0, 12, 6, 0) by decide +kernel) (by decide) (sh_ok hG (by decide +kernel)) (sh_rf hG (by decide +kernel)) ?_
  refine e_P (st' := [aI 1, aR 190, aI v4]) (show decode (mC 235) 58 = .ok (.iconst 1, 1) by decide +kernel) rfl rfl rfl ?_
  refine e_ialdx (n := 514) (show decode (mC 235) 59 = .ok (.iaload, 1) by decide +kernel) (sh_ok hG (by decide +kernel)) (sh_ln hG (by decide +kernel)) (by decide) (by decide) (by decide) ex1 ?_
  refine e_ge2 (t := 104) (show decode (mC 235) 60 = .ok (.if_icmp .ge 44, 3) by decide +kernel) (by decide) s1 s2 (fun p1 => ?_) (fun p1 => ?_)
  · refine e_P (st' := [aI (-1)]) (show decode (mC 235) 104 = .ok (.iconst (-1), 1) by decide +kernel) rfl rfl rfl ?_
    refine e_L (L' := [some (aR 188), some (aI v1), some (aI v2), some (aI v3), some (aI (-1)), none, none]) (st' := []) (show decode (mC 235) 105 = .ok (.istore 4, 2) by decide +kernel) rfl rfl ?_
    refine e_P (st' := [aI 1]) (show decode (mC 235) 107 = .ok (.iconst 1, 1) by decide +kernel) rfl rfl rfl ?_
    refine e_L (L' := [some (aR 188), some (aI v1), some (aI v2), some (aI v3), some (aI (-1)), some (aI 1), none]) (st' := []) (show decode (mC 235) 108 = .ok (.istore 5, 2) by decide +kernel) rfl rfl ?_
    exact (k3 p1)
  · refine e_L (L' := [some (aR 188), some (aI v1), some (aI v2), some (aI v3), some (aI v4), none, none]) (st' := [aR 188]) (show decode (mC 235) 63 = .ok (.aload_n 0, 1) by decide +kernel) rfl (by show (if 188 = 0 then none else some (_, _)) = _; rw [if_neg (by decide)]) ?_
    refine e_getR (w := 190) (show decode (mC 235) 64 = .ok (.getfield 33, 3) by decide +kernel) (show pl 12 33 = some (0, 12, 6, 0) by decide +kernel) (by decide) (sh_ok hG (by decide +kernel)) (sh_rf hG (by decide +kernel)) ?_
    refine e_P (st' := [aI 197, aR 190]) (show decode (mC 235) 67 = .ok (.sipush 197, 3) by decide +kernel) rfl rfl rfl ?_
    refine e_L (L' := [some (aR 188), some (aI v1), some (aI v2), some (aI v3), some (aI v4), none, none]) (st' := [aI v4, aI 197, aR 190]) (show decode (mC 235) 70 = .ok (.iload 4, 2) by decide +kernel) rfl rfl ?_
    refine e_P (st' := [aI (197 + v4), aR 190]) (show decode (mC 235) 72 = .ok (.iadd, 1) by decide +kernel) rfl rfl rfl ?_
    refine e_ialdx (n := 514) (show decode (mC 235) 73 = .ok (.iaload, 1) by decide +kernel) (sh_ok hG (by decide +kernel)) (sh_ln hG (by decide +kernel)) (by decide) (s4 p1) (s5 p1) ex2 ?_
    refine e_ne1 (t := 80) (show decode (mC 235) 74 = .ok (.ifCond .ne 6, 3) by decide +kernel) (by decide) (s7 p1) (fun p2 => ?_) (fun p2 => ?_)
    · refine e_L (L' := [some (aR 188), some (aI v1), some (aI v2), some (aI v3), some (aI v4), none, none]) (st' := [aR 188]) (show decode (mC 235) 80 = .ok (.aload_n 0, 1) by decide +kernel) rfl (by show (if 188 = 0 then none else some (_, _)) = _; rw [if_neg (by decide)]) ?_
      refine e_getR (w := 197) (show decode (mC 235) 81 = .ok (.getfield 56, 3) by decide +kernel) (show pl 12 56 = some (0, 12, 24, 0) by decide +kernel) (by decide) (sh_ok hG (by decide +kernel)) (sh_rf hG (by decide +kernel)) ?_
      refine e_L (L' := [some (aR 188), some (aI v1), some (aI v2), some (aI v3), some (aI v4), none, none]) (st' := [aI v3, aR 197]) (show decode (mC 235) 84 = .ok (.iload_n 3, 1) by decide +kernel) rfl rfl ?_
      refine e_L (L' := [some (aR 188), some (aI v1), some (aI v2), some (aI v3), some (aI v4), none, none]) (st' := [aI v4, aI v3, aR 197]) (show decode (mC 235) 85 = .ok (.iload 4, 2) by decide +kernel) rfl rfl ?_
      refine e_iast (n := 8) (show decode (mC 235) 87 = .ok (.iastore, 1) by decide +kernel) (sh_ok hG (by decide +kernel)) (sh_ln hG (by decide +kernel)) (by decide) (s8 p1 p2) (s9 p1 p2) ?_
      refine e_L (L' := [some (aR 188), some (aI v1), some (aI v2), some (aI v3), some (aI v4), none, none]) (st' := [aR 188]) (show decode (mC 235) 88 = .ok (.aload_n 0, 1) by decide +kernel) rfl (by show (if 188 = 0 then none else some (_, _)) = _; rw [if_neg (by decide)]) ?_
      refine e_getR (w := 198) (show decode (mC 235) 89 = .ok (.getfield 59, 3) by decide +kernel) (show pl 12 59 = some (0, 12, 25, 0) by decide +kernel) (by decide) (sh_ok hG (by decide +kernel)) (sh_rf hG (by decide +kernel)) ?_
      refine e_L (L' := [some (aR 188), some (aI v1), some (aI v2), some (aI v3), some (aI v4), none, none]) (st' := [aI v3, aR 198]) (show decode (mC 235) 92 = .ok (.iload_n 3, 1) by decide +kernel) rfl rfl ?_
      refine e_P (st' := [aI 0, aI v3, aR 198]) (show decode (mC 235) 93 = .ok (.iconst 0, 1) by decide +kernel) rfl rfl rfl ?_
      refine e_iast (n := 8) (show decode (mC 235) 94 = .ok (.iastore, 1) by decide +kernel) (sh_ok hG (by decide +kernel)) (sh_ln hG (by decide +kernel)) (by decide) (s8 p1 p2) (s9 p1 p2) ?_
      refine e_L (L' := [some (aR 188), some (aI v1), some (aI v2), some (aI (v3 + 1)), some (aI v4), none, none]) (st' := []) (show decode (mC 235) 95 = .ok (.iinc 3 1, 3) by decide +kernel) rfl rfl ?_
      refine e_L (L' := [some (aR 188), some (aI v1), some (aI v2), some (aI (v3 + 1)), some (aI (v4 + 1)), none, none]) (st' := []) (show decode (mC 235) 98 = .ok (.iinc 4 1, 3) by decide +kernel) rfl rfl ?_
      refine e_go (t := 52) (show decode (mC 235) 101 = .ok (.goto (-49), 3) by decide +kernel) (by decide) ?_
      exact (k10 p1 p2)
    · refine e_go (t := 98) (show decode (mC 235) 77 = .ok (.goto 21, 3) by decide +kernel) (by decide) ?_
      refine e_L (L' := [some (aR 188), some (aI v1), some (aI v2), some (aI v3), some (aI (v4 + 1)), none, none]) (st' := []) (show decode (mC 235) 98 = .ok (.iinc 4 1, 3) by decide +kernel) rfl rfl ?_
      refine e_go (t := 52) (show decode (mC 235) 101 = .ok (.goto (-49), 3) by decide +kernel) (by decide) ?_
      exact (k11 p1 p2)
/-- SoulOfficeModel.appealOf(II)I, from 110 -/
theorem b235_110 (hG : Shp G) {v1 v2 v3 v4 v5 : Int} (hQ : ∀ o o' h', q_eqo o o' → Q o h' → Q o' h')
    (s0 : -2147483648 ≤ v5 ∧ v5 < 2147483648)
    (z1 : (v5 = 0) → Q (.inl (some (aI v4))) (G, c))
    (m2 : (¬ v5 = 0) → TM d 233 [aR 188, aI v3, aI v1, aI v2] (G, c) (fun r h' => T (d + 1) 235 122 [some (aR 188), some (aI v1), some (aI v2), some (aI v3), some (aI v4), none, none] (r.toList ++ []) h' Q)) :
    T (d + 1) 235 110 [some (aR 188), some (aI v1), some (aI v2), some (aI v3), some (aI v4), some (aI v5), none] [] (G, c) Q := by
  refine e_L (L' := [some (aR 188), some (aI v1), some (aI v2), some (aI v3), some (aI v4), some (aI v5), none]) (st' := [aI v5]) (show decode (mC 235) 110 = .ok (.iload 5, 2) by decide +kernel) rfl rfl ?_
  refine e_eq1 (t := 200) (show decode (mC 235) 112 = .ok (.ifCond .eq 88, 3) by decide +kernel) (by decide) s0 (fun p1 => ?_) (fun p1 => ?_)
  · refine e_L (L' := [some (aR 188), some (aI v1), some (aI v2), some (aI v3), some (aI v4), some (aI v5), none]) (st' := [aI v4]) (show decode (mC 235) 200 = .ok (.iload 4, 2) by decide +kernel) rfl rfl ?_
    exact e_iret (show decode (mC 235) 202 = .ok (.ireturn, 1) by decide +kernel) rfl (z1 p1)
  · refine e_L (L' := [some (aR 188), some (aI v1), some (aI v2), some (aI v3), some (aI v4), some (aI v5), none]) (st' := [aR 188]) (show decode (mC 235) 115 = .ok (.aload_n 0, 1) by decide +kernel) rfl (by show (if 188 = 0 then none else some (_, _)) = _; rw [if_neg (by decide)]) ?_
    refine e_L (L' := [some (aR 188), some (aI v1), some (aI v2), some (aI v3), some (aI v4), some (aI v5), none]) (st' := [aI v3, aR 188]) (show decode (mC 235) 116 = .ok (.iload_n 3, 1) by decide +kernel) rfl rfl ?_
    refine e_L (L' := [some (aR 188), some (aI v1), some (aI v2), some (aI v3), some (aI v4), some (aI v5), none]) (st' := [aI v1, aI v3, aR 188]) (show decode (mC 235) 117 = .ok (.iload_n 1, 1) by decide +kernel) rfl rfl ?_
    refine e_L (L' := [some (aR 188), some (aI v1), some (aI v2), some (aI v3), some (aI v4), some (aI v5), none]) (st' := [aI v2, aI v1, aI v3, aR 188]) (show decode (mC 235) 118 = .ok (.iload_n 2, 1) by decide +kernel) rfl rfl ?_
    exact e_V (as := [aR 188, aI v3, aI v1, aI v2]) (rest := []) (show decode (mC 235) 119 = .ok (.invokevirtual 341, 3) by decide +kernel) (by decide +kernel) (show (decide ((4 : Nat) = mA 233) && decide (233 < q_law)) = true by decide +kernel) rfl (show (0 : Nat) ≤ 8 by decide) (show (4 : Nat) ≤ mL 233 by decide +kernel) rfl (sh_ok hG (by decide +kernel)) (tm_le hQ (leS (leS (leS (leS (leS (leN (leS leE))))))) (m2 p1))
/-- SoulOfficeModel.appealOf(II)I, from 122 -/
theorem b235_122 (hG : Shp G) {v1 v2 v3 v4 u0 x1 x2 x3 : Int}
    (s0 : -2147483648 ≤ u0 ∧ u0 < 2147483648)
    (m1 : (u0 = 0) → TM d 234 [aR 188, aI v3] (G, c) (fun r h' => T (d + 1) 235 195 [some (aR 188), some (aI v1), some (aI v2), some (aI v3), some (aI v4), none, none] (r.toList ++ []) h' Q))
    (s2 : (¬ u0 = 0) → -2147483648 ≤ v4 ∧ v4 < 2147483648)
    (ex1 : c 188 34 = x1)
    (k4 : (¬ u0 = 0) → (v4 < 0) → T (d + 1) 235 148 [some (aR 188), some (aI v1), some (aI v2), some (aI v3), some (aI x1), none, some (aI 0)] [] (G, c) Q)
    (ex2 : c 188 34 = x2)
    (s6 : (¬ u0 = 0) → (0 ≤ v4) → -2147483648 ≤ x2 ∧ x2 < 2147483648)
    (m7 : (¬ u0 = 0) → (0 ≤ v4) → (v4 ≤ x2) → TM d 234 [aR 188, aI v3] (G, c) (fun r h' => T (d + 1) 235 195 [some (aR 188), some (aI v1), some (aI v2), some (aI v3), some (aI v4), none, none] (r.toList ++ []) h' Q))
    (ex3 : c 188 34 = x3)
    (k9 : (¬ u0 = 0) → (0 ≤ v4) → (x2 < v4) → T (d + 1) 235 148 [some (aR 188), some (aI v1), some (aI v2), some (aI v3), some (aI x3), none, some (aI 0)] [] (G, c) Q) :
    T (d + 1) 235 122 [some (aR 188), some (aI v1), some (aI v2), some (aI v3), some (aI v4), none, none] [aI u0] (G, c) Q := by
  refine e_eq1 (t := 190) (show decode (mC 235) 122 = .ok (.ifCond .eq 68, 3) by decide +kernel) (by decide) s0 (fun p1 => ?_) (fun p1 => ?_)
  · refine e_L (L' := [some (aR 188), some (aI v1), some (aI v2), some (aI v3), some (aI v4), none, none]) (st' := [aR 188]) (show decode (mC 235) 190 = .ok (.aload_n 0, 1) by decide +kernel) rfl (by show (if 188 = 0 then none else some (_, _)) = _; rw [if_neg (by decide)]) ?_
    refine e_L (L' := [some (aR 188), some (aI v1), some (aI v2), some (aI v3), some (aI v4), none, none]) (st' := [aI v3, aR 188]) (show decode (mC 235) 191 = .ok (.iload_n 3, 1) by decide +kernel) rfl rfl ?_
    exact e_V (as := [aR 188, aI v3]) (rest := []) (show decode (mC 235) 192 = .ok (.invokevirtual 344, 3) by decide +kernel) (by decide +kernel) (show (decide ((2 : Nat) = mA 234) && decide (234 < q_law)) = true by decide +kernel) rfl (show (0 : Nat) ≤ 8 by decide) (show (2 : Nat) ≤ mL 234 by decide +kernel) rfl (sh_ok hG (by decide +kernel)) (m1 p1)
  · refine e_L (L' := [some (aR 188), some (aI v1), some (aI v2), some (aI v3), some (aI v4), none, none]) (st' := [aI v4]) (show decode (mC 235) 125 = .ok (.iload 4, 2) by decide +kernel) rfl rfl ?_
    refine e_lt1 (t := 139) (show decode (mC 235) 127 = .ok (.ifCond .lt 12, 3) by decide +kernel) (by decide) (s2 p1) (fun p2 => ?_) (fun p2 => ?_)
    · refine e_L (L' := [some (aR 188), some (aI v1), some (aI v2), some (aI v3), some (aI v4), none, none]) (st' := [aR 188]) (show decode (mC 235) 139 = .ok (.aload_n 0, 1) by decide +kernel) rfl (by show (if 188 = 0 then none else some (_, _)) = _; rw [if_neg (by decide)]) ?_
      refine e_getIx (show decode (mC 235) 140 = .ok (.getfield 335, 3) by decide +kernel) (show pl 12 335 = some (0, 12, 34, 0) by decide +kernel) (by decide) (sh_ok hG (by decide +kernel)) ex1 ?_
      refine e_L (L' := [some (aR 188), some (aI v1), some (aI v2), some (aI v3), some (aI x1), none, none]) (st' := []) (show decode (mC 235) 143 = .ok (.istore 4, 2) by decide +kernel) rfl rfl ?_
      refine e_P (st' := [aI 0]) (show decode (mC 235) 145 = .ok (.iconst 0, 1) by decide +kernel) rfl rfl rfl ?_
      refine e_L (L' := [some (aR 188), some (aI v1), some (aI v2), some (aI v3), some (aI x1), none, some (aI 0)]) (st' := []) (show decode (mC 235) 146 = .ok (.istore 6, 2) by decide +kernel) rfl rfl ?_
      exact (k4 p1 p2)
    · refine e_L (L' := [some (aR 188), some (aI v1), some (aI v2), some (aI v3), some (aI v4), none, none]) (st' := [aR 188]) (show decode (mC 235) 130 = .ok (.aload_n 0, 1) by decide +kernel) rfl (by show (if 188 = 0 then none else some (_, _)) = _; rw [if_neg (by decide)]) ?_
      refine e_getIx (show decode (mC 235) 131 = .ok (.getfield 335, 3) by decide +kernel) (show pl 12 335 = some (0, 12, 34, 0) by decide +kernel) (by decide) (sh_ok hG (by decide +kernel)) ex2 ?_
      refine e_L (L' := [some (aR 188), some (aI v1), some (aI v2), some (aI v3), some (aI v4), none, none]) (st' := [aI v4, aI x2]) (show decode (mC 235) 134 = .ok (.iload 4, 2) by decide +kernel) rfl rfl ?_
      refine e_ge2 (t := 190) (show decode (mC 235) 136 = .ok (.if_icmp .ge 54, 3) by decide +kernel) (by decide) (s6 p1 p2) (s2 p1) (fun p3 => ?_) (fun p3 => ?_)
      · refine e_L (L' := [some (aR 188), some (aI v1), some (aI v2), some (aI v3), some (aI v4), none, none]) (st' := [aR 188]) (show decode (mC 235) 190 = .ok (.aload_n 0, 1) by decide +kernel) rfl (by show (if 188 = 0 then none else some (_, _)) = _; rw [if_neg (by decide)]) ?_
        refine e_L (L' := [some (aR 188), some (aI v1), some (aI v2), some (aI v3), some (aI v4), none, none]) (st' := [aI v3, aR 188]) (show decode (mC 235) 191 = .ok (.iload_n 3, 1) by decide +kernel) rfl rfl ?_
        exact e_V (as := [aR 188, aI v3]) (rest := []) (show decode (mC 235) 192 = .ok (.invokevirtual 344, 3) by decide +kernel) (by decide +kernel) (show (decide ((2 : Nat) = mA 234) && decide (234 < q_law)) = true by decide +kernel) rfl (show (0 : Nat) ≤ 8 by decide) (show (2 : Nat) ≤ mL 234 by decide +kernel) rfl (sh_ok hG (by decide +kernel)) (m7 p1 p2 p3)
      · refine e_L (L' := [some (aR 188), some (aI v1), some (aI v2), some (aI v3), some (aI v4), none, none]) (st' := [aR 188]) (show decode (mC 235) 139 = .ok (.aload_n 0, 1) by decide +kernel) rfl (by show (if 188 = 0 then none else some (_, _)) = _; rw [if_neg (by decide)]) ?_
        refine e_getIx (show decode (mC 235) 140 = .ok (.getfield 335, 3) by decide +kernel) (show pl 12 335 = some (0, 12, 34, 0) by decide +kernel) (by decide) (sh_ok hG (by decide +kernel)) ex3 ?_
        refine e_L (L' := [some (aR 188), some (aI v1), some (aI v2), some (aI v3), some (aI x3), none, none]) (st' := []) (show decode (mC 235) 143 = .ok (.istore 4, 2) by decide +kernel) rfl rfl ?_
        refine e_P (st' := [aI 0]) (show decode (mC 235) 145 = .ok (.iconst 0, 1) by decide +kernel) rfl rfl rfl ?_
        refine e_L (L' := [some (aR 188), some (aI v1), some (aI v2), some (aI v3), some (aI x3), none, some (aI 0)]) (st' := []) (show decode (mC 235) 146 = .ok (.istore 6, 2) by decide +kernel) rfl rfl ?_
        exact (k9 p1 p2 p3)
/-- SoulOfficeModel.appealOf(II)I, from 148 -/
theorem b235_148 (hG : Shp G) {v1 v2 v3 v4 v6 x1 x2 x3 : Int} (hQ : ∀ o o' h', q_eqo o o' → Q o h' → Q o' h')
    (s0 : -2147483648 ≤ v6 ∧ v6 < 2147483648)
    (s1 : -2147483648 ≤ v3 ∧ v3 < 2147483648)
    (m2 : (v3 ≤ v6) → TM d 234 [aR 188, aI v3] (G, c) (fun r h' => T (d + 1) 235 195 [some (aR 188), some (aI v1), some (aI v2), some (aI v3), some (aI v4), none, none] (r.toList ++ []) h' Q))
    (s3 : (v6 < v3) → 0 ≤ v6)
    (s4 : (v6 < v3) → v6 < 8)
    (ex1 : c 197 v6 = x1)
    (ex2 : c 197 v6 = x2)
    (ex3 : c 198 v6 = x3)
    (m8 : (v6 < v3) → TM d 232 [aR 188, aI x2, aI x3] (G, c) (fun r h' => T (d + 1) 235 183 [some (aR 188), some (aI v1), some (aI v2), some (aI v3), some (aI v4), none, some (aI v6)] (r.toList ++ [aI x1, aR 203]) h' Q)) :
    T (d + 1) 235 148 [some (aR 188), some (aI v1), some (aI v2), some (aI v3), some (aI v4), none, some (aI v6)] [] (G, c) Q := by
  refine e_L (L' := [some (aR 188), some (aI v1), some (aI v2), some (aI v3), some (aI v4), none, some (aI v6)]) (st' := [aI v6]) (show decode (mC 235) 148 = .ok (.iload 6, 2) by decide +kernel) rfl rfl ?_
  refine e_L (L' := [some (aR 188), some (aI v1), some (aI v2), some (aI v3), some (aI v4), none, some (aI v6)]) (st' := [aI v3, aI v6]) (show decode (mC 235) 150 = .ok (.iload_n 3, 1) by decide +kernel) rfl rfl ?_
  refine e_ge2 (t := 190) (show decode (mC 235) 151 = .ok (.if_icmp .ge 39, 3) by decide +kernel) (by decide) s0 s1 (fun p1 => ?_) (fun p1 => ?_)
  · refine e_L (L' := [some (aR 188), some (aI v1), some (aI v2), some (aI v3), some (aI v4), none, some (aI v6)]) (st' := [aR 188]) (show decode (mC 235) 190 = .ok (.aload_n 0, 1) by decide +kernel) rfl (by show (if 188 = 0 then none else some (_, _)) = _; rw [if_neg (by decide)]) ?_
    refine e_L (L' := [some (aR 188), some (aI v1), some (aI v2), some (aI v3), some (aI v4), none, some (aI v6)]) (st' := [aI v3, aR 188]) (show decode (mC 235) 191 = .ok (.iload_n 3, 1) by decide +kernel) rfl rfl ?_
    exact e_V (as := [aR 188, aI v3]) (rest := []) (show decode (mC 235) 192 = .ok (.invokevirtual 344, 3) by decide +kernel) (by decide +kernel) (show (decide ((2 : Nat) = mA 234) && decide (234 < q_law)) = true by decide +kernel) rfl (show (0 : Nat) ≤ 8 by decide) (show (2 : Nat) ≤ mL 234 by decide +kernel) rfl (sh_ok hG (by decide +kernel)) (tm_le hQ (leS (leS (leS (leS (leS (leS (leN leE))))))) (m2 p1))
  · refine e_L (L' := [some (aR 188), some (aI v1), some (aI v2), some (aI v3), some (aI v4), none, some (aI v6)]) (st' := [aR 188]) (show decode (mC 235) 154 = .ok (.aload_n 0, 1) by decide +kernel) rfl (by show (if 188 = 0 then none else some (_, _)) = _; rw [if_neg (by decide)]) ?_
    refine e_getR (w := 203) (show decode (mC 235) 155 = .ok (.getfield 77, 3) by decide +kernel) (show pl 12 77 = some (0, 12, 32, 0) by decide +kernel) (by decide) (sh_ok hG (by decide +kernel)) (sh_rf hG (by decide +kernel)) ?_
    refine e_L (L' := [some (aR 188), some (aI v1), some (aI v2), some (aI v3), some (aI v4), none, some (aI v6)]) (st' := [aR 188, aR 203]) (show decode (mC 235) 158 = .ok (.aload_n 0, 1) by decide +kernel) rfl (by show (if 188 = 0 then none else some (_, _)) = _; rw [if_neg (by decide)]) ?_
    refine e_getR (w := 197) (show decode (mC 235) 159 = .ok (.getfield 56, 3) by decide +kernel) (show pl 12 56 = some (0, 12, 24, 0) by decide +kernel) (by decide) (sh_ok hG (by decide +kernel)) (sh_rf hG (by decide +kernel)) ?_
    refine e_L (L' := [some (aR 188), some (aI v1), some (aI v2), some (aI v3), some (aI v4), none, some (aI v6)]) (st' := [aI v6, aR 197, aR 203]) (show decode (mC 235) 162 = .ok (.iload 6, 2) by decide +kernel) rfl rfl ?_
    refine e_ialdx (n := 8) (show decode (mC 235) 164 = .ok (.iaload, 1) by decide +kernel) (sh_ok hG (by decide +kernel)) (sh_ln hG (by decide +kernel)) (by decide) (s3 p1) (s4 p1) ex1 ?_
    refine e_L (L' := [some (aR 188), some (aI v1), some (aI v2), some (aI v3), some (aI v4), none, some (aI v6)]) (st' := [aR 188, aI x1, aR 203]) (show decode (mC 235) 165 = .ok (.aload_n 0, 1) by decide +kernel) rfl (by show (if 188 = 0 then none else some (_, _)) = _; rw [if_neg (by decide)]) ?_
    refine e_L (L' := [some (aR 188), some (aI v1), some (aI v2), some (aI v3), some (aI v4), none, some (aI v6)]) (st' := [aR 188, aR 188, aI x1, aR 203]) (show decode (mC 235) 166 = .ok (.aload_n 0, 1) by decide +kernel) rfl (by show (if 188 = 0 then none else some (_, _)) = _; rw [if_neg (by decide)]) ?_
    refine e_getR (w := 197) (show decode (mC 235) 167 = .ok (.getfield 56, 3) by decide +kernel) (show pl 12 56 = some (0, 12, 24, 0) by decide +kernel) (by decide) (sh_ok hG (by decide +kernel)) (sh_rf hG (by decide +kernel)) ?_
    refine e_L (L' := [some (aR 188), some (aI v1), some (aI v2), some (aI v3), some (aI v4), none, some (aI v6)]) (st' := [aI v6, aR 197, aR 188, aI x1, aR 203]) (show decode (mC 235) 170 = .ok (.iload 6, 2) by decide +kernel) rfl rfl ?_
    refine e_ialdx (n := 8) (show decode (mC 235) 172 = .ok (.iaload, 1) by decide +kernel) (sh_ok hG (by decide +kernel)) (sh_ln hG (by decide +kernel)) (by decide) (s3 p1) (s4 p1) ex2 ?_
    refine e_L (L' := [some (aR 188), some (aI v1), some (aI v2), some (aI v3), some (aI v4), none, some (aI v6)]) (st' := [aR 188, aI x2, aR 188, aI x1, aR 203]) (show decode (mC 235) 173 = .ok (.aload_n 0, 1) by decide +kernel) rfl (by show (if 188 = 0 then none else some (_, _)) = _; rw [if_neg (by decide)]) ?_
    refine e_getR (w := 198) (show decode (mC 235) 174 = .ok (.getfield 59, 3) by decide +kernel) (show pl 12 59 = some (0, 12, 25, 0) by decide +kernel) (by decide) (sh_ok hG (by decide +kernel)) (sh_rf hG (by decide +kernel)) ?_
    refine e_L (L' := [some (aR 188), some (aI v1), some (aI v2), some (aI v3), some (aI v4), none, some (aI v6)]) (st' := [aI v6, aR 198, aI x2, aR 188, aI x1, aR 203]) (show decode (mC 235) 177 = .ok (.iload 6, 2) by decide +kernel) rfl rfl ?_
    refine e_ialdx (n := 8) (show decode (mC 235) 179 = .ok (.iaload, 1) by decide +kernel) (sh_ok hG (by decide +kernel)) (sh_ln hG (by decide +kernel)) (by decide) (s3 p1) (s4 p1) ex3 ?_
    exact e_V (as := [aR 188, aI x2, aI x3]) (rest := [aI x1, aR 203]) (show decode (mC 235) 180 = .ok (.invokevirtual 338, 3) by decide +kernel) (by decide +kernel) (show (decide ((3 : Nat) = mA 232) && decide (232 < q_law)) = true by decide +kernel) rfl (show (2 : Nat) ≤ 8 by decide) (show (3 : Nat) ≤ mL 232 by decide +kernel) rfl (sh_ok hG (by decide +kernel)) (m8 p1)
/-- SoulOfficeModel.appealOf(II)I, from 183 -/
theorem b235_183 (hG : Shp G) {v1 v2 v3 v4 v6 u1 u2 : Int}
    (s0 : 0 ≤ u1)
    (s1 : u1 < 8)
    (k2 : T (d + 1) 235 148 [some (aR 188), some (aI v1), some (aI v2), some (aI v3), some (aI v4), none, some (aI (v6 + 1))] [] (G, (q_up c 203 u1 u2)) Q) :
    T (d + 1) 235 183 [some (aR 188), some (aI v1), some (aI v2), some (aI v3), some (aI v4), none, some (aI v6)] [aI u2, aI u1, aR 203] (G, c) Q := by
  refine e_iast (n := 8) (show decode (mC 235) 183 = .ok (.iastore, 1) by decide +kernel) (sh_ok hG (by decide +kernel)) (sh_ln hG (by decide +kernel)) (by decide) s0 s1 ?_
  refine e_L (L' := [some (aR 188), some (aI v1), some (aI v2), some (aI v3), some (aI v4), none, some (aI (v6 + 1))]) (st' := []) (show decode (mC 235) 184 = .ok (.iinc 6 1, 3) by decide +kernel) rfl rfl ?_
  refine e_go (t := 148) (show decode (mC 235) 187 = .ok (.goto (-39), 3) by decide +kernel) (by decide) ?_
  exact k2
/-- SoulOfficeModel.appealOf(II)I, from 195 -/
theorem b235_195 (hG : Shp G) {v1 v2 v3 v4 u0 : Int}
    (k0 : T (d + 1) 235 110 [some (aR 188), some (aI v1), some (aI v2), some (aI v3), some (aI v4), some (aI u0), none] [] (G, c) Q) :
    T (d + 1) 235 195 [some (aR 188), some (aI v1), some (aI v2), some (aI v3), some (aI v4), none, none] [aI u0] (G, c) Q := by
  refine e_L (L' := [some (aR 188), some (aI v1), some (aI v2), some (aI v3), some (aI v4), some (aI u0), none]) (st' := []) (show decode (mC 235) 195 = .ok (.istore 5, 2) by decide +kernel) rfl rfl ?_
  refine e_go (t := 110) (show decode (mC 235) 197 = .ok (.goto (-87), 3) by decide +kernel) (by decide) ?_
  exact k0
/-- SoulOfficeModel.appeal(II)I, from 0 -/
theorem b236_0 (hG : Shp G) {v1 v2 : Int} (hQ : ∀ o o' h', q_eqo o o' → Q o h' → Q o' h')
    (m0 : TM d 235 [aR 188, aI v1, aI v2] (G, (q_up c 188 0 0)) (fun r h' => T (d + 1) 236 11 [none, none, none] (r.toList ++ []) h' Q)) :
    T (d + 1) 236 0 [some (aR 188), some (aI v1), some (aI v2)] [] (G, c) Q := by
  refine e_L (L' := [some (aR 188), some (aI v1), some (aI v2)]) (st' := [aR 188]) (show decode (mC 236) 0 = .ok (.aload_n 0, 1) by decide +kernel) rfl (by show (if 188 = 0 then none else some (_, _)) = _; rw [if_neg (by decide)]) ?_
  refine e_P (st' := [aI 0, aR 188]) (show decode (mC 236) 1 = .ok (.iconst 0, 1) by decide +kernel) rfl rfl rfl ?_
  refine e_putI (show decode (mC 236) 2 = .ok (.putfield 1, 3) by decide +kernel) (show pl 12 1 = some (0, 12, 0, 0) by decide +kernel) (by decide) (sh_ok hG (by decide +kernel)) ?_
  refine e_L (L' := [some (aR 188), some (aI v1), some (aI v2)]) (st' := [aR 188]) (show decode (mC 236) 5 = .ok (.aload_n 0, 1) by decide +kernel) rfl (by show (if 188 = 0 then none else some (_, _)) = _; rw [if_neg (by decide)]) ?_
  refine e_L (L' := [some (aR 188), some (aI v1), some (aI v2)]) (st' := [aI v1, aR 188]) (show decode (mC 236) 6 = .ok (.iload_n 1, 1) by decide +kernel) rfl rfl ?_
  refine e_L (L' := [some (aR 188), some (aI v1), some (aI v2)]) (st' := [aI v2, aI v1, aR 188]) (show decode (mC 236) 7 = .ok (.iload_n 2, 1) by decide +kernel) rfl rfl ?_
  exact e_V (as := [aR 188, aI v1, aI v2]) (rest := []) (show decode (mC 236) 8 = .ok (.invokevirtual 347, 3) by decide +kernel) (by decide +kernel) (show (decide ((3 : Nat) = mA 235) && decide (235 < q_law)) = true by decide +kernel) rfl (show (0 : Nat) ≤ 8 by decide) (show (3 : Nat) ≤ mL 235 by decide +kernel) rfl (sh_ok hG (by decide +kernel)) (tm_le hQ (leN (leN (leN leE))) m0)
/-- SoulOfficeModel.appeal(II)I, from 11 -/
theorem b236_11 (hG : Shp G) {u0 : Int}
    (z0 : Q (.inl (some (aI u0))) (G, c)) :
    T (d + 1) 236 11 [none, none, none] [aI u0] (G, c) Q := by
  exact e_iret (show decode (mC 236) 11 = .ok (.ireturn, 1) by decide +kernel) rfl z0
/-- SoulOfficeModel.grant(II)Z, from 0 -/
theorem b237_0 (hG : Shp G) {v1 v2 : Int} (hQ : ∀ o o' h', q_eqo o o' → Q o h' → Q o' h')
    (m0 : TM d 235 [aR 188, aI v1, aI v2] (G, (q_up c 188 0 0)) (fun r h' => T (d + 1) 237 11 [some (aR 188), none, none, none] (r.toList ++ []) h' Q)) :
    T (d + 1) 237 0 [some (aR 188), some (aI v1), some (aI v2), none] [] (G, c) Q := by
  refine e_L (L' := [some (aR 188), some (aI v1), some (aI v2), none]) (st' := [aR 188]) (show decode (mC 237) 0 = .ok (.aload_n 0, 1) by decide +kernel) rfl (by show (if 188 = 0 then none else some (_, _)) = _; rw [if_neg (by decide)]) ?_
  refine e_P (st' := [aI 0, aR 188]) (show decode (mC 237) 1 = .ok (.iconst 0, 1) by decide +kernel) rfl rfl rfl ?_
  refine e_putI (show decode (mC 237) 2 = .ok (.putfield 1, 3) by decide +kernel) (show pl 12 1 = some (0, 12, 0, 0) by decide +kernel) (by decide) (sh_ok hG (by decide +kernel)) ?_
  refine e_L (L' := [some (aR 188), some (aI v1), some (aI v2), none]) (st' := [aR 188]) (show decode (mC 237) 5 = .ok (.aload_n 0, 1) by decide +kernel) rfl (by show (if 188 = 0 then none else some (_, _)) = _; rw [if_neg (by decide)]) ?_
  refine e_L (L' := [some (aR 188), some (aI v1), some (aI v2), none]) (st' := [aI v1, aR 188]) (show decode (mC 237) 6 = .ok (.iload_n 1, 1) by decide +kernel) rfl rfl ?_
  refine e_L (L' := [some (aR 188), some (aI v1), some (aI v2), none]) (st' := [aI v2, aI v1, aR 188]) (show decode (mC 237) 7 = .ok (.iload_n 2, 1) by decide +kernel) rfl rfl ?_
  exact e_V (as := [aR 188, aI v1, aI v2]) (rest := []) (show decode (mC 237) 8 = .ok (.invokevirtual 347, 3) by decide +kernel) (by decide +kernel) (show (decide ((3 : Nat) = mA 235) && decide (235 < q_law)) = true by decide +kernel) rfl (show (0 : Nat) ≤ 8 by decide) (show (3 : Nat) ≤ mL 235 by decide +kernel) rfl (sh_ok hG (by decide +kernel)) (tm_le hQ (leS (leN (leN (leS leE)))) m0)
/-- SoulOfficeModel.grant(II)Z, from 11 -/
theorem b237_11 (hG : Shp G) {u0 : Int}
    (s0 : -2147483648 ≤ u0 ∧ u0 < 2147483648)
    (m1 : (1 ≤ u0) → TM d 212 [aR 188] (G, c) (fun r h' => T (d + 1) 237 21 [some (aR 188), none, none, none] (r.toList ++ []) h' Q))
    (z2 : (u0 < 1) → Q (.inl (some (aI 0))) (G, c)) :
    T (d + 1) 237 11 [some (aR 188), none, none, none] [aI u0] (G, c) Q := by
  refine e_P (st' := [aI 1, aI u0]) (show decode (mC 237) 11 = .ok (.iconst 1, 1) by decide +kernel) rfl rfl rfl ?_
  refine e_ge2 (t := 17) (show decode (mC 237) 12 = .ok (.if_icmp .ge 5, 3) by decide +kernel) (by decide) s0 (by decide) (fun p1 => ?_) (fun p1 => ?_)
  · refine e_L (L' := [some (aR 188), none, none, none]) (st' := [aR 188]) (show decode (mC 237) 17 = .ok (.aload_n 0, 1) by decide +kernel) rfl (by show (if 188 = 0 then none else some (_, _)) = _; rw [if_neg (by decide)]) ?_
    exact e_V (as := [aR 188]) (rest := []) (show decode (mC 237) 18 = .ok (.invokevirtual 290, 3) by decide +kernel) (by decide +kernel) (show (decide ((1 : Nat) = mA 212) && decide (212 < q_law)) = true by decide +kernel) rfl (show (0 : Nat) ≤ 8 by decide) (show (1 : Nat) ≤ mL 212 by decide +kernel) rfl (sh_ok hG (by decide +kernel)) (m1 p1)
  · refine e_P (st' := [aI 0]) (show decode (mC 237) 15 = .ok (.iconst 0, 1) by decide +kernel) rfl rfl rfl ?_
    exact e_zret (show decode (mC 237) 16 = .ok (.ireturn, 1) by decide +kernel) rfl (by decide) (z2 p1)
/-- SoulOfficeModel.grant(II)Z, from 21 -/
theorem b237_21 (hG : Shp G)
    (k0 : T (d + 1) 237 23 [some (aR 188), none, none, some (aI 0)] [] (G, c) Q) :
    T (d + 1) 237 21 [some (aR 188), none, none, none] [] (G, c) Q := by
  refine e_P (st' := [aI 0]) (show decode (mC 237) 21 = .ok (.iconst 0, 1) by decide +kernel) rfl rfl rfl ?_
  refine e_L (L' := [some (aR 188), none, none, some (aI 0)]) (st' := []) (show decode (mC 237) 22 = .ok (.istore_n 3, 1) by decide +kernel) rfl rfl ?_
  exact k0
/-- SoulOfficeModel.grant(II)Z, from 23 -/
theorem b237_23 (hG : Shp G) {v3 x1 x2 x3 x4 x5 : Int}
    (ex1 : c 190 1 = x1)
    (s1 : -2147483648 ≤ v3 ∧ v3 < 2147483648)
    (s2 : -2147483648 ≤ x1 ∧ x1 < 2147483648)
    (z3 : (x1 ≤ v3) → Q (.inl (some (aI 1))) (G, c))
    (s4 : (v3 < x1) → 0 ≤ (197 + v3))
    (s5 : (v3 < x1) → (197 + v3) < 514)
    (ex2 : c 190 (197 + v3) = x2)
    (s7 : (v3 < x1) → -2147483648 ≤ x2 ∧ x2 < 2147483648)
    (k8 : (v3 < x1) → (¬ x2 = 1) → T (d + 1) 237 79 [some (aR 188), none, none, some (aI v3)] [] (G, c) Q)
    (s9 : (v3 < x1) → (x2 = 1) → 0 ≤ (173 + v3))
    (s10 : (v3 < x1) → (x2 = 1) → (173 + v3) < 514)
    (ex3 : c 190 (173 + v3) = x3)
    (s12 : (v3 < x1) → (x2 = 1) → 0 ≤ v3)
    (s13 : (v3 < x1) → (x2 = 1) → v3 < 8)
    (ex4 : c 203 v3 = x4)
    (s15 : (v3 < x1) → (x2 = 1) → -2147483648 ≤ x3 ∧ x3 < 2147483648)
    (s16 : (v3 < x1) → (x2 = 1) → -2147483648 ≤ (x4 + 1) ∧ (x4 + 1) < 2147483648)
    (k17 : (v3 < x1) → (x2 = 1) → (x3 = (x4 + 1)) → T (d + 1) 237 79 [some (aR 188), none, none, some (aI v3)] [] (G, c) Q)
    (ex5 : c 203 v3 = x5)
    (m19 : (v3 < x1) → (x2 = 1) → (¬ x3 = (x4 + 1)) → TM d 199 [aR 188, aI v3, aI x5] (G, c) (fun r h' => T (d + 1) 237 79 [some (aR 188), none, none, some (aI v3)] (r.toList ++ []) h' Q)) :
    T (d + 1) 237 23 [some (aR 188), none, none, some (aI v3)] [] (G, c) Q := by
  refine e_L (L' := [some (aR 188), none, none, some (aI v3)]) (st' := [aI v3]) (show decode (mC 237) 23 = .ok (.iload_n 3, 1) by decide +kernel) rfl rfl ?_
  refine e_L (L' := [some (aR 188), none, none, some (aI v3)]) (st' := [aR 188, aI v3]) (show decode (mC 237) 24 = .ok (.aload_n 0, 1) by decide +kernel) rfl (by show (if 188 = 0 then none else some (_, _)) = _; rw [if_neg (by decide)]) ?_
  refine e_getR (w := 190) (show decode (mC 237) 25 = .ok (.getfield 33, 3) by decide +kernel) (show pl 12 33 = some (0, 12, 6, 0) by decide +kernel) (by decide) (sh_ok hG (by decide +kernel)) (sh_rf hG (by decide +kernel)) ?_
  refine e_P (st' := [aI 1, aR 190, aI v3]) (show decode (mC 237) 28 = .ok (.iconst 1, 1) by decide +kernel) rfl rfl rfl ?_
  refine e_ialdx (n := 514) (show decode (mC 237) 29 = .ok (.iaload, 1) by decide +kernel) (sh_ok hG (by decide +kernel)) (sh_ln hG (by decide +kernel)) (by decide) (by decide) (by decide) ex1 ?_
  refine e_ge2 (t := 85) (show decode (mC 237) 30 = .ok (.if_icmp .ge 55, 3) by decide +kernel) (by decide) s1 s2 (fun p1 => ?_) (fun p1 => ?_)
  · refine e_P (st' := [aI 1]) (show decode (mC 237) 85 = .ok (.iconst 1, 1) by decide +kernel) rfl rfl rfl ?_
    exact e_zret (show decode (mC 237) 86 = .ok (.ireturn, 1) by decide +kernel) rfl (by decide) (z3 p1)
  · refine e_L (L' := [some (aR 188), none, none, some (aI v3)]) (st' := [aR 188]) (show decode (mC 237) 33 = .ok (.aload_n 0, 1) by decide +kernel) rfl (by show (if 188 = 0 then none else some (_, _)) = _; rw [if_neg (by decide)]) ?_
    refine e_getR (w := 190) (show decode (mC 237) 34 = .ok (.getfield 33, 3) by decide +kernel) (show pl 12 33 = some (0, 12, 6, 0) by decide +kernel) (by decide) (sh_ok hG (by decide +kernel)) (sh_rf hG (by decide +kernel)) ?_
    refine e_P (st' := [aI 197, aR 190]) (show decode (mC 237) 37 = .ok (.sipush 197, 3) by decide +kernel) rfl rfl rfl ?_
    refine e_L (L' := [some (aR 188), none, none, some (aI v3)]) (st' := [aI v3, aI 197, aR 190]) (show decode (mC 237) 40 = .ok (.iload_n 3, 1) by decide +kernel) rfl rfl ?_
    refine e_P (st' := [aI (197 + v3), aR 190]) (show decode (mC 237) 41 = .ok (.iadd, 1) by decide +kernel) rfl rfl rfl ?_
    refine e_ialdx (n := 514) (show decode (mC 237) 42 = .ok (.iaload, 1) by decide +kernel) (sh_ok hG (by decide +kernel)) (sh_ln hG (by decide +kernel)) (by decide) (s4 p1) (s5 p1) ex2 ?_
    refine e_P (st' := [aI 1, aI x2]) (show decode (mC 237) 43 = .ok (.iconst 1, 1) by decide +kernel) rfl rfl rfl ?_
    refine e_ne2 (t := 79) (show decode (mC 237) 44 = .ok (.if_icmp .ne 35, 3) by decide +kernel) (by decide) (s7 p1) (by decide) (fun p2 => ?_) (fun p2 => ?_)
    · exact (k8 p1 p2)
    · refine e_L (L' := [some (aR 188), none, none, some (aI v3)]) (st' := [aR 188]) (show decode (mC 237) 47 = .ok (.aload_n 0, 1) by decide +kernel) rfl (by show (if 188 = 0 then none else some (_, _)) = _; rw [if_neg (by decide)]) ?_
      refine e_getR (w := 190) (show decode (mC 237) 48 = .ok (.getfield 33, 3) by decide +kernel) (show pl 12 33 = some (0, 12, 6, 0) by decide +kernel) (by decide) (sh_ok hG (by decide +kernel)) (sh_rf hG (by decide +kernel)) ?_
      refine e_P (st' := [aI 173, aR 190]) (show decode (mC 237) 51 = .ok (.sipush 173, 3) by decide +kernel) rfl rfl rfl ?_
      refine e_L (L' := [some (aR 188), none, none, some (aI v3)]) (st' := [aI v3, aI 173, aR 190]) (show decode (mC 237) 54 = .ok (.iload_n 3, 1) by decide +kernel) rfl rfl ?_
      refine e_P (st' := [aI (173 + v3), aR 190]) (show decode (mC 237) 55 = .ok (.iadd, 1) by decide +kernel) rfl rfl rfl ?_
      refine e_ialdx (n := 514) (show decode (mC 237) 56 = .ok (.iaload, 1) by decide +kernel) (sh_ok hG (by decide +kernel)) (sh_ln hG (by decide +kernel)) (by decide) (s9 p1 p2) (s10 p1 p2) ex3 ?_
      refine e_L (L' := [some (aR 188), none, none, some (aI v3)]) (st' := [aR 188, aI x3]) (show decode (mC 237) 57 = .ok (.aload_n 0, 1) by decide +kernel) rfl (by show (if 188 = 0 then none else some (_, _)) = _; rw [if_neg (by decide)]) ?_
      refine e_getR (w := 203) (show decode (mC 237) 58 = .ok (.getfield 77, 3) by decide +kernel) (show pl 12 77 = some (0, 12, 32, 0) by decide +kernel) (by decide) (sh_ok hG (by decide +kernel)) (sh_rf hG (by decide +kernel)) ?_
      refine e_L (L' := [some (aR 188), none, none, some (aI v3)]) (st' := [aI v3, aR 203, aI x3]) (show decode (mC 237) 61 = .ok (.iload_n 3, 1) by decide +kernel) rfl rfl ?_
      refine e_ialdx (n := 8) (show decode (mC 237) 62 = .ok (.iaload, 1) by decide +kernel) (sh_ok hG (by decide +kernel)) (sh_ln hG (by decide +kernel)) (by decide) (s12 p1 p2) (s13 p1 p2) ex4 ?_
      refine e_P (st' := [aI 1, aI x4, aI x3]) (show decode (mC 237) 63 = .ok (.iconst 1, 1) by decide +kernel) rfl rfl rfl ?_
      refine e_P (st' := [aI (x4 + 1), aI x3]) (show decode (mC 237) 64 = .ok (.iadd, 1) by decide +kernel) rfl rfl rfl ?_
      refine e_eq2 (t := 79) (show decode (mC 237) 65 = .ok (.if_icmp .eq 14, 3) by decide +kernel) (by decide) (s15 p1 p2) (s16 p1 p2) (fun p3 => ?_) (fun p3 => ?_)
      · exact (k17 p1 p2 p3)
      · refine e_L (L' := [some (aR 188), none, none, some (aI v3)]) (st' := [aR 188]) (show decode (mC 237) 68 = .ok (.aload_n 0, 1) by decide +kernel) rfl (by show (if 188 = 0 then none else some (_, _)) = _; rw [if_neg (by decide)]) ?_
        refine e_L (L' := [some (aR 188), none, none, some (aI v3)]) (st' := [aI v3, aR 188]) (show decode (mC 237) 69 = .ok (.iload_n 3, 1) by decide +kernel) rfl rfl ?_
        refine e_L (L' := [some (aR 188), none, none, some (aI v3)]) (st' := [aR 188, aI v3, aR 188]) (show decode (mC 237) 70 = .ok (.aload_n 0, 1) by decide +kernel) rfl (by show (if 188 = 0 then none else some (_, _)) = _; rw [if_neg (by decide)]) ?_
        refine e_getR (w := 203) (show decode (mC 237) 71 = .ok (.getfield 77, 3) by decide +kernel) (show pl 12 77 = some (0, 12, 32, 0) by decide +kernel) (by decide) (sh_ok hG (by decide +kernel)) (sh_rf hG (by decide +kernel)) ?_
        refine e_L (L' := [some (aR 188), none, none, some (aI v3)]) (st' := [aI v3, aR 203, aI v3, aR 188]) (show decode (mC 237) 74 = .ok (.iload_n 3, 1) by decide +kernel) rfl rfl ?_
        refine e_ialdx (n := 8) (show decode (mC 237) 75 = .ok (.iaload, 1) by decide +kernel) (sh_ok hG (by decide +kernel)) (sh_ln hG (by decide +kernel)) (by decide) (s12 p1 p2) (s13 p1 p2) ex5 ?_
        exact e_V (as := [aR 188, aI v3, aI x5]) (rest := []) (show decode (mC 237) 76 = .ok (.invokevirtual 264, 3) by decide +kernel) (by decide +kernel) (show (decide ((3 : Nat) = mA 199) && decide (199 < q_law)) = true by decide +kernel) rfl (show (0 : Nat) ≤ 8 by decide) (show (3 : Nat) ≤ mL 199 by decide +kernel) rfl (sh_ok hG (by decide +kernel)) (m19 p1 p2 p3)
/-- SoulOfficeModel.grant(II)Z, from 79 -/
theorem b237_79 (hG : Shp G) {v3 : Int}
    (k0 : T (d + 1) 237 23 [some (aR 188), none, none, some (aI (v3 + 1))] [] (G, c) Q) :
    T (d + 1) 237 79 [some (aR 188), none, none, some (aI v3)] [] (G, c) Q := by
  refine e_L (L' := [some (aR 188), none, none, some (aI (v3 + 1))]) (st' := []) (show decode (mC 237) 79 = .ok (.iinc 3 1, 3) by decide +kernel) rfl rfl ?_
  refine e_go (t := 23) (show decode (mC 237) 82 = .ok (.goto (-59), 3) by decide +kernel) (by decide) ?_
  exact k0
/-- SoulOfficeModel.ends()I, from 0 -/
theorem b238_0 (hG : Shp G)
    (m0 : TM d 214 [aR 188] (G, (q_up c 188 0 0)) (fun r h' => T (d + 1) 238 9 [some (aR 188), none, none] (r.toList ++ []) h' Q)) :
    T (d + 1) 238 0 [some (aR 188), none, none] [] (G, c) Q := by
  refine e_L (L' := [some (aR 188), none, none]) (st' := [aR 188]) (show decode (mC 238) 0 = .ok (.aload_n 0, 1) by decide +kernel) rfl (by show (if 188 = 0 then none else some (_, _)) = _; rw [if_neg (by decide)]) ?_
  refine e_P (st' := [aI 0, aR 188]) (show decode (mC 238) 1 = .ok (.iconst 0, 1) by decide +kernel) rfl rfl rfl ?_
  refine e_putI (show decode (mC 238) 2 = .ok (.putfield 1, 3) by decide +kernel) (show pl 12 1 = some (0, 12, 0, 0) by decide +kernel) (by decide) (sh_ok hG (by decide +kernel)) ?_
  refine e_L (L' := [some (aR 188), none, none]) (st' := [aR 188]) (show decode (mC 238) 5 = .ok (.aload_n 0, 1) by decide +kernel) rfl (by show (if 188 = 0 then none else some (_, _)) = _; rw [if_neg (by decide)]) ?_
  exact e_V (as := [aR 188]) (rest := []) (show decode (mC 238) 6 = .ok (.invokevirtual 299, 3) by decide +kernel) (by decide +kernel) (show (decide ((1 : Nat) = mA 214) && decide (214 < q_law)) = true by decide +kernel) rfl (show (0 : Nat) ≤ 8 by decide) (show (1 : Nat) ≤ mL 214 by decide +kernel) rfl (sh_ok hG (by decide +kernel)) m0
/-- SoulOfficeModel.ends()I, from 9 -/
theorem b238_9 (hG : Shp G)
    (k0 : T (d + 1) 238 13 [some (aR 188), some (aI (-1)), some (aI 0)] [] (G, c) Q) :
    T (d + 1) 238 9 [some (aR 188), none, none] [] (G, c) Q := by
  refine e_P (st' := [aI (-1)]) (show decode (mC 238) 9 = .ok (.iconst (-1), 1) by decide +kernel) rfl rfl rfl ?_
  refine e_L (L' := [some (aR 188), some (aI (-1)), none]) (st' := []) (show decode (mC 238) 10 = .ok (.istore_n 1, 1) by decide +kernel) rfl rfl ?_
  refine e_P (st' := [aI 0]) (show decode (mC 238) 11 = .ok (.iconst 0, 1) by decide +kernel) rfl rfl rfl ?_
  refine e_L (L' := [some (aR 188), some (aI (-1)), some (aI 0)]) (st' := []) (show decode (mC 238) 12 = .ok (.istore_n 2, 1) by decide +kernel) rfl rfl ?_
  exact k0
/-- SoulOfficeModel.ends()I, from 13 -/
theorem b238_13 (hG : Shp G) {v1 v2 : Int} (hQ : ∀ o o' h', q_eqo o o' → Q o h' → Q o' h')
    (s0 : -2147483648 ≤ v2 ∧ v2 < 2147483648)
    (m1 : (400 < v2) → TM d 215 [aR 188] (G, c) (fun r h' => T (d + 1) 238 57 [none, some (aI v1), none] (r.toList ++ []) h' Q))
    (s2 : (v2 ≤ 400) → -2147483648 ≤ v1 ∧ v1 < 2147483648)
    (m3 : (v2 ≤ 400) → (0 ≤ v1) → TM d 215 [aR 188] (G, c) (fun r h' => T (d + 1) 238 57 [none, some (aI v1), none] (r.toList ++ []) h' Q))
    (m4 : (v2 ≤ 400) → (v1 < 0) → TM d 196 [aR 188] (G, c) (fun r h' => T (d + 1) 238 28 [some (aR 188), some (aI v1), some (aI v2)] (r.toList ++ []) h' Q)) :
    T (d + 1) 238 13 [some (aR 188), some (aI v1), some (aI v2)] [] (G, c) Q := by
  refine e_L (L' := [some (aR 188), some (aI v1), some (aI v2)]) (st' := [aI v2]) (show decode (mC 238) 13 = .ok (.iload_n 2, 1) by decide +kernel) rfl rfl ?_
  refine e_P (st' := [aI 400, aI v2]) (show decode (mC 238) 14 = .ok (.sipush 400, 3) by decide +kernel) rfl rfl rfl ?_
  refine e_gt2 (t := 53) (show decode (mC 238) 17 = .ok (.if_icmp .gt 36, 3) by decide +kernel) (by decide) s0 (by decide) (fun p1 => ?_) (fun p1 => ?_)
  · refine e_L (L' := [some (aR 188), some (aI v1), some (aI v2)]) (st' := [aR 188]) (show decode (mC 238) 53 = .ok (.aload_n 0, 1) by decide +kernel) rfl (by show (if 188 = 0 then none else some (_, _)) = _; rw [if_neg (by decide)]) ?_
    exact e_V (as := [aR 188]) (rest := []) (show decode (mC 238) 54 = .ok (.invokevirtual 305, 3) by decide +kernel) (by decide +kernel) (show (decide ((1 : Nat) = mA 215) && decide (215 < q_law)) = true by decide +kernel) rfl (show (0 : Nat) ≤ 8 by decide) (show (1 : Nat) ≤ mL 215 by decide +kernel) rfl (sh_ok hG (by decide +kernel)) (tm_le hQ (leN (leS (leN leE))) (m1 p1))
  · refine e_L (L' := [some (aR 188), some (aI v1), some (aI v2)]) (st' := [aI v1]) (show decode (mC 238) 20 = .ok (.iload_n 1, 1) by decide +kernel) rfl rfl ?_
    refine e_ge1 (t := 53) (show decode (mC 238) 21 = .ok (.ifCond .ge 32, 3) by decide +kernel) (by decide) (s2 p1) (fun p2 => ?_) (fun p2 => ?_)
    · refine e_L (L' := [some (aR 188), some (aI v1), some (aI v2)]) (st' := [aR 188]) (show decode (mC 238) 53 = .ok (.aload_n 0, 1) by decide +kernel) rfl (by show (if 188 = 0 then none else some (_, _)) = _; rw [if_neg (by decide)]) ?_
      exact e_V (as := [aR 188]) (rest := []) (show decode (mC 238) 54 = .ok (.invokevirtual 305, 3) by decide +kernel) (by decide +kernel) (show (decide ((1 : Nat) = mA 215) && decide (215 < q_law)) = true by decide +kernel) rfl (show (0 : Nat) ≤ 8 by decide) (show (1 : Nat) ≤ mL 215 by decide +kernel) rfl (sh_ok hG (by decide +kernel)) (tm_le hQ (leN (leS (leN leE))) (m3 p1 p2))
    · refine e_L (L' := [some (aR 188), some (aI v1), some (aI v2)]) (st' := [aR 188]) (show decode (mC 238) 24 = .ok (.aload_n 0, 1) by decide +kernel) rfl (by show (if 188 = 0 then none else some (_, _)) = _; rw [if_neg (by decide)]) ?_
      exact e_V (as := [aR 188]) (rest := []) (show decode (mC 238) 25 = .ok (.invokevirtual 261, 3) by decide +kernel) (by decide +kernel) (show (decide ((1 : Nat) = mA 196) && decide (196 < q_law)) = true by decide +kernel) rfl (show (0 : Nat) ≤ 8 by decide) (show (1 : Nat) ≤ mL 196 by decide +kernel) rfl (sh_ok hG (by decide +kernel)) (m4 p1 p2)
/-- SoulOfficeModel.ends()I, from 28 -/
theorem b238_28 (hG : Shp G) {v1 v2 u0 x1 : Int}
    (s0 : -2147483648 ≤ u0 ∧ u0 < 2147483648)
    (m1 : (¬ u0 = 0) → TM d 205 [aR 188] (G, c) (fun r h' => T (d + 1) 238 47 [some (aR 188), some (aI v1), some (aI v2)] (r.toList ++ []) h' Q))
    (ex1 : c 190 168 = x1)
    (k3 : (u0 = 0) → T (d + 1) 238 47 [some (aR 188), some (aI x1), some (aI v2)] [] (G, c) Q) :
    T (d + 1) 238 28 [some (aR 188), some (aI v1), some (aI v2)] [aI u0] (G, c) Q := by
  refine e_ne1 (t := 43) (show decode (mC 238) 28 = .ok (.ifCond .ne 15, 3) by decide +kernel) (by decide) s0 (fun p1 => ?_) (fun p1 => ?_)
  · refine e_L (L' := [some (aR 188), some (aI v1), some (aI v2)]) (st' := [aR 188]) (show decode (mC 238) 43 = .ok (.aload_n 0, 1) by decide +kernel) rfl (by show (if 188 = 0 then none else some (_, _)) = _; rw [if_neg (by decide)]) ?_
    exact e_V (as := [aR 188]) (rest := []) (show decode (mC 238) 44 = .ok (.invokevirtual 296, 3) by decide +kernel) (by decide +kernel) (show (decide ((1 : Nat) = mA 205) && decide (205 < q_law)) = true by decide +kernel) rfl (show (0 : Nat) ≤ 8 by decide) (show (1 : Nat) ≤ mL 205 by decide +kernel) rfl (sh_ok hG (by decide +kernel)) (m1 p1)
  · refine e_L (L' := [some (aR 188), some (aI v1), some (aI v2)]) (st' := [aR 188]) (show decode (mC 238) 31 = .ok (.aload_n 0, 1) by decide +kernel) rfl (by show (if 188 = 0 then none else some (_, _)) = _; rw [if_neg (by decide)]) ?_
    refine e_getR (w := 190) (show decode (mC 238) 32 = .ok (.getfield 33, 3) by decide +kernel) (show pl 12 33 = some (0, 12, 6, 0) by decide +kernel) (by decide) (sh_ok hG (by decide +kernel)) (sh_rf hG (by decide +kernel)) ?_
    refine e_P (st' := [aI 168, aR 190]) (show decode (mC 238) 35 = .ok (.sipush 168, 3) by decide +kernel) rfl rfl rfl ?_
    refine e_ialdx (n := 514) (show decode (mC 238) 38 = .ok (.iaload, 1) by decide +kernel) (sh_ok hG (by decide +kernel)) (sh_ln hG (by decide +kernel)) (by decide) (by decide) (by decide) ex1 ?_
    refine e_L (L' := [some (aR 188), some (aI x1), some (aI v2)]) (st' := []) (show decode (mC 238) 39 = .ok (.istore_n 1, 1) by decide +kernel) rfl rfl ?_
    refine e_go (t := 47) (show decode (mC 238) 40 = .ok (.goto 7, 3) by decide +kernel) (by decide) ?_
    exact (k3 p1)
/-- SoulOfficeModel.ends()I, from 47 -/
theorem b238_47 (hG : Shp G) {v1 v2 : Int}
    (k0 : T (d + 1) 238 13 [some (aR 188), some (aI v1), some (aI (v2 + 1))] [] (G, c) Q) :
    T (d + 1) 238 47 [some (aR 188), some (aI v1), some (aI v2)] [] (G, c) Q := by
  refine e_L (L' := [some (aR 188), some (aI v1), some (aI (v2 + 1))]) (st' := []) (show decode (mC 238) 47 = .ok (.iinc 2 1, 3) by decide +kernel) rfl rfl ?_
  refine e_go (t := 13) (show decode (mC 238) 50 = .ok (.goto (-37), 3) by decide +kernel) (by decide) ?_
  exact k0
/-- SoulOfficeModel.ends()I, from 57 -/
theorem b238_57 (hG : Shp G) {v1 : Int}
    (z0 : Q (.inl (some (aI v1))) (G, c)) :
    T (d + 1) 238 57 [none, some (aI v1), none] [] (G, c) Q := by
  refine e_L (L' := [none, some (aI v1), none]) (st' := [aI v1]) (show decode (mC 238) 57 = .ok (.iload_n 1, 1) by decide +kernel) rfl rfl ?_
  exact e_iret (show decode (mC 238) 58 = .ok (.ireturn, 1) by decide +kernel) rfl z0
/-- SoulOfficeModel.laterOf(I)I, from 0 -/
theorem b239_0 (hG : Shp G) {v1 : Int}
    (k0 : T (d + 1) 239 2 [some (aR 188), some (aI v1), some (aI 0)] [] (G, c) Q) :
    T (d + 1) 239 0 [some (aR 188), some (aI v1), none] [] (G, c) Q := by
  refine e_P (st' := [aI 0]) (show decode (mC 239) 0 = .ok (.iconst 0, 1) by decide +kernel) rfl rfl rfl ?_
  refine e_L (L' := [some (aR 188), some (aI v1), some (aI 0)]) (st' := []) (show decode (mC 239) 1 = .ok (.istore_n 2, 1) by decide +kernel) rfl rfl ?_
  exact k0
/-- SoulOfficeModel.laterOf(I)I, from 2 -/
theorem b239_2 (hG : Shp G) {v1 v2 : Int} (hQ : ∀ o o' h', q_eqo o o' → Q o h' → Q o' h')
    (s0 : -2147483648 ≤ v2 ∧ v2 < 2147483648)
    (s1 : -2147483648 ≤ v1 ∧ v1 < 2147483648)
    (m2 : (v1 ≤ v2) → TM d 196 [aR 188] (G, c) (fun r h' => T (d + 1) 239 21 [some (aR 188), none, none] (r.toList ++ []) h' Q))
    (m3 : (v2 < v1) → TM d 205 [aR 188] (G, c) (fun r h' => T (d + 1) 239 11 [some (aR 188), some (aI v1), some (aI v2)] (r.toList ++ []) h' Q)) :
    T (d + 1) 239 2 [some (aR 188), some (aI v1), some (aI v2)] [] (G, c) Q := by
  refine e_L (L' := [some (aR 188), some (aI v1), some (aI v2)]) (st' := [aI v2]) (show decode (mC 239) 2 = .ok (.iload_n 2, 1) by decide +kernel) rfl rfl ?_
  refine e_L (L' := [some (aR 188), some (aI v1), some (aI v2)]) (st' := [aI v1, aI v2]) (show decode (mC 239) 3 = .ok (.iload_n 1, 1) by decide +kernel) rfl rfl ?_
  refine e_ge2 (t := 17) (show decode (mC 239) 4 = .ok (.if_icmp .ge 13, 3) by decide +kernel) (by decide) s0 s1 (fun p1 => ?_) (fun p1 => ?_)
  · refine e_L (L' := [some (aR 188), some (aI v1), some (aI v2)]) (st' := [aR 188]) (show decode (mC 239) 17 = .ok (.aload_n 0, 1) by decide +kernel) rfl (by show (if 188 = 0 then none else some (_, _)) = _; rw [if_neg (by decide)]) ?_
    exact e_V (as := [aR 188]) (rest := []) (show decode (mC 239) 18 = .ok (.invokevirtual 261, 3) by decide +kernel) (by decide +kernel) (show (decide ((1 : Nat) = mA 196) && decide (196 < q_law)) = true by decide +kernel) rfl (show (0 : Nat) ≤ 8 by decide) (show (1 : Nat) ≤ mL 196 by decide +kernel) rfl (sh_ok hG (by decide +kernel)) (tm_le hQ (leS (leN (leN leE))) (m2 p1))
  · refine e_L (L' := [some (aR 188), some (aI v1), some (aI v2)]) (st' := [aR 188]) (show decode (mC 239) 7 = .ok (.aload_n 0, 1) by decide +kernel) rfl (by show (if 188 = 0 then none else some (_, _)) = _; rw [if_neg (by decide)]) ?_
    exact e_V (as := [aR 188]) (rest := []) (show decode (mC 239) 8 = .ok (.invokevirtual 296, 3) by decide +kernel) (by decide +kernel) (show (decide ((1 : Nat) = mA 205) && decide (205 < q_law)) = true by decide +kernel) rfl (show (0 : Nat) ≤ 8 by decide) (show (1 : Nat) ≤ mL 205 by decide +kernel) rfl (sh_ok hG (by decide +kernel)) (m3 p1)
/-- SoulOfficeModel.laterOf(I)I, from 11 -/
theorem b239_11 (hG : Shp G) {v1 v2 : Int}
    (k0 : T (d + 1) 239 2 [some (aR 188), some (aI v1), some (aI (v2 + 1))] [] (G, c) Q) :
    T (d + 1) 239 11 [some (aR 188), some (aI v1), some (aI v2)] [] (G, c) Q := by
  refine e_L (L' := [some (aR 188), some (aI v1), some (aI (v2 + 1))]) (st' := []) (show decode (mC 239) 11 = .ok (.iinc 2 1, 3) by decide +kernel) rfl rfl ?_
  refine e_go (t := 2) (show decode (mC 239) 14 = .ok (.goto (-12), 3) by decide +kernel) (by decide) ?_
  exact k0
/-- SoulOfficeModel.laterOf(I)I, from 21 -/
theorem b239_21 (hG : Shp G) {u0 : Int} (hQ : ∀ o o' h', q_eqo o o' → Q o h' → Q o' h')
    (m0 : TM d 215 [aR 188] (G, c) (fun r h' => T (d + 1) 239 26 [none, none, some (aI u0)] (r.toList ++ []) h' Q)) :
    T (d + 1) 239 21 [some (aR 188), none, none] [aI u0] (G, c) Q := by
  refine e_L (L' := [some (aR 188), none, some (aI u0)]) (st' := []) (show decode (mC 239) 21 = .ok (.istore_n 2, 1) by decide +kernel) rfl rfl ?_
  refine e_L (L' := [some (aR 188), none, some (aI u0)]) (st' := [aR 188]) (show decode (mC 239) 22 = .ok (.aload_n 0, 1) by decide +kernel) rfl (by show (if 188 = 0 then none else some (_, _)) = _; rw [if_neg (by decide)]) ?_
  exact e_V (as := [aR 188]) (rest := []) (show decode (mC 239) 23 = .ok (.invokevirtual 305, 3) by decide +kernel) (by decide +kernel) (show (decide ((1 : Nat) = mA 215) && decide (215 < q_law)) = true by decide +kernel) rfl (show (0 : Nat) ≤ 8 by decide) (show (1 : Nat) ≤ mL 215 by decide +kernel) rfl (sh_ok hG (by decide +kernel)) (tm_le hQ (leN (leS (leS leE))) m0)
/-- SoulOfficeModel.laterOf(I)I, from 26 -/
theorem b239_26 (hG : Shp G) {v2 : Int}
    (z0 : Q (.inl (some (aI v2))) (G, c)) :
    T (d + 1) 239 26 [none, none, some (aI v2)] [] (G, c) Q := by
  refine e_L (L' := [none, none, some (aI v2)]) (st' := [aI v2]) (show decode (mC 239) 26 = .ok (.iload_n 2, 1) by decide +kernel) rfl rfl ?_
  exact e_iret (show decode (mC 239) 27 = .ok (.ireturn, 1) by decide +kernel) rfl z0
/-- SoulOfficeModel.later(I)I, from 0 -/
theorem b240_0 (hG : Shp G) {v1 : Int}
    (m0 : TM d 164 [aI v1, aI 1, aI 60] (G, (q_up c 188 0 0)) (fun r h' => T (d + 1) 240 12 [some (aR 188), some (aI v1)] (r.toList ++ []) h' Q)) :
    T (d + 1) 240 0 [some (aR 188), some (aI v1)] [] (G, c) Q := by
  refine e_L (L' := [some (aR 188), some (aI v1)]) (st' := [aR 188]) (show decode (mC 240) 0 = .ok (.aload_n 0, 1) by decide +kernel) rfl (by show (if 188 = 0 then none else some (_, _)) = _; rw [if_neg (by decide)]) ?_
  refine e_P (st' := [aI 0, aR 188]) (show decode (mC 240) 1 = .ok (.iconst 0, 1) by decide +kernel) rfl rfl rfl ?_
  refine e_putI (show decode (mC 240) 2 = .ok (.putfield 1, 3) by decide +kernel) (show pl 12 1 = some (0, 12, 0, 0) by decide +kernel) (by decide) (sh_ok hG (by decide +kernel)) ?_
  refine e_L (L' := [some (aR 188), some (aI v1)]) (st' := [aI v1]) (show decode (mC 240) 5 = .ok (.iload_n 1, 1) by decide +kernel) rfl rfl ?_
  refine e_P (st' := [aI 1, aI v1]) (show decode (mC 240) 6 = .ok (.iconst 1, 1) by decide +kernel) rfl rfl rfl ?_
  refine e_P (st' := [aI 60, aI 1, aI v1]) (show decode (mC 240) 7 = .ok (.bipush 60, 2) by decide +kernel) rfl rfl rfl ?_
  exact e_S (as := [aI v1, aI 1, aI 60]) (rest := []) (show decode (mC 240) 9 = .ok (.invokestatic 184, 3) by decide +kernel) (by decide +kernel) (show (decide ((3 : Nat) = mA 164) && decide (164 < q_law)) = true by decide +kernel) rfl (show (0 : Nat) ≤ 8 by decide) (show (3 : Nat) ≤ mL 164 by decide +kernel) m0
/-- SoulOfficeModel.later(I)I, from 12 -/
theorem b240_12 (hG : Shp G) {v1 u0 : Int}
    (s0 : -2147483648 ≤ u0 ∧ u0 < 2147483648)
    (m1 : (¬ u0 = 0) → TM d 214 [aR 188] (G, c) (fun r h' => T (d + 1) 240 21 [some (aR 188), some (aI v1)] (r.toList ++ []) h' Q))
    (z2 : (u0 = 0) → Q (.inl (some (aI (-1)))) (G, c)) :
    T (d + 1) 240 12 [some (aR 188), some (aI v1)] [aI u0] (G, c) Q := by
  refine e_ne1 (t := 17) (show decode (mC 240) 12 = .ok (.ifCond .ne 5, 3) by decide +kernel) (by decide) s0 (fun p1 => ?_) (fun p1 => ?_)
  · refine e_L (L' := [some (aR 188), some (aI v1)]) (st' := [aR 188]) (show decode (mC 240) 17 = .ok (.aload_n 0, 1) by decide +kernel) rfl (by show (if 188 = 0 then none else some (_, _)) = _; rw [if_neg (by decide)]) ?_
    exact e_V (as := [aR 188]) (rest := []) (show decode (mC 240) 18 = .ok (.invokevirtual 299, 3) by decide +kernel) (by decide +kernel) (show (decide ((1 : Nat) = mA 214) && decide (214 < q_law)) = true by decide +kernel) rfl (show (0 : Nat) ≤ 8 by decide) (show (1 : Nat) ≤ mL 214 by decide +kernel) rfl (sh_ok hG (by decide +kernel)) (m1 p1)
  · refine e_P (st' := [aI (-1)]) (show decode (mC 240) 15 = .ok (.iconst (-1), 1) by decide +kernel) rfl rfl rfl ?_
    exact e_iret (show decode (mC 240) 16 = .ok (.ireturn, 1) by decide +kernel) rfl (z2 p1)
/-- SoulOfficeModel.later(I)I, from 21 -/
theorem b240_21 (hG : Shp G) {v1 : Int} (hQ : ∀ o o' h', q_eqo o o' → Q o h' → Q o' h')
    (m0 : TM d 239 [aR 188, aI v1] (G, c) (fun r h' => T (d + 1) 240 26 [none, none] (r.toList ++ []) h' Q)) :
    T (d + 1) 240 21 [some (aR 188), some (aI v1)] [] (G, c) Q := by
  refine e_L (L' := [some (aR 188), some (aI v1)]) (st' := [aR 188]) (show decode (mC 240) 21 = .ok (.aload_n 0, 1) by decide +kernel) rfl (by show (if 188 = 0 then none else some (_, _)) = _; rw [if_neg (by decide)]) ?_
  refine e_L (L' := [some (aR 188), some (aI v1)]) (st' := [aI v1, aR 188]) (show decode (mC 240) 22 = .ok (.iload_n 1, 1) by decide +kernel) rfl rfl ?_
  exact e_V (as := [aR 188, aI v1]) (rest := []) (show decode (mC 240) 23 = .ok (.invokevirtual 350, 3) by decide +kernel) (by decide +kernel) (show (decide ((2 : Nat) = mA 239) && decide (239 < q_law)) = true by decide +kernel) rfl (show (0 : Nat) ≤ 8 by decide) (show (2 : Nat) ≤ mL 239 by decide +kernel) rfl (sh_ok hG (by decide +kernel)) (tm_le hQ (leN (leN leE)) m0)
/-- SoulOfficeModel.later(I)I, from 26 -/
theorem b240_26 (hG : Shp G) {u0 : Int}
    (z0 : Q (.inl (some (aI u0))) (G, c)) :
    T (d + 1) 240 26 [none, none] [aI u0] (G, c) Q := by
  exact e_iret (show decode (mC 240) 26 = .ok (.ireturn, 1) by decide +kernel) rfl z0
/-- SoulOfficeModel.queue(I)I, from 0 -/
theorem b241_0 (hG : Shp G) {v1 : Int}
    (m0 : TM d 187 [aR 188, aI v1] (G, (q_up c 188 0 0)) (fun r h' => T (d + 1) 241 10 [some (aR 188), some (aI v1), none, none] (r.toList ++ []) h' Q)) :
    T (d + 1) 241 0 [some (aR 188), some (aI v1), none, none] [] (G, c) Q := by
  refine e_L (L' := [some (aR 188), some (aI v1), none, none]) (st' := [aR 188]) (show decode (mC 241) 0 = .ok (.aload_n 0, 1) by decide +kernel) rfl (by show (if 188 = 0 then none else some (_, _)) = _; rw [if_neg (by decide)]) ?_
  refine e_P (st' := [aI 0, aR 188]) (show decode (mC 241) 1 = .ok (.iconst 0, 1) by decide +kernel) rfl rfl rfl ?_
  refine e_putI (show decode (mC 241) 2 = .ok (.putfield 1, 3) by decide +kernel) (show pl 12 1 = some (0, 12, 0, 0) by decide +kernel) (by decide) (sh_ok hG (by decide +kernel)) ?_
  refine e_L (L' := [some (aR 188), some (aI v1), none, none]) (st' := [aR 188]) (show decode (mC 241) 5 = .ok (.aload_n 0, 1) by decide +kernel) rfl (by show (if 188 = 0 then none else some (_, _)) = _; rw [if_neg (by decide)]) ?_
  refine e_L (L' := [some (aR 188), some (aI v1), none, none]) (st' := [aI v1, aR 188]) (show decode (mC 241) 6 = .ok (.iload_n 1, 1) by decide +kernel) rfl rfl ?_
  exact e_V (as := [aR 188, aI v1]) (rest := []) (show decode (mC 241) 7 = .ok (.invokevirtual 241, 3) by decide +kernel) (by decide +kernel) (show (decide ((2 : Nat) = mA 187) && decide (187 < q_law)) = true by decide +kernel) rfl (show (0 : Nat) ≤ 8 by decide) (show (2 : Nat) ≤ mL 187 by decide +kernel) rfl (sh_ok hG (by decide +kernel)) m0
/-- SoulOfficeModel.queue(I)I, from 10 -/
theorem b241_10 (hG : Shp G) {v1 u0 : Int}
    (s0 : -2147483648 ≤ u0 ∧ u0 < 2147483648)
    (m1 : (¬ u0 = 0) → TM d 214 [aR 188] (G, c) (fun r h' => T (d + 1) 241 19 [some (aR 188), some (aI v1), none, none] (r.toList ++ []) h' Q))
    (z2 : (u0 = 0) → Q (.inl (some (aI (-1)))) (G, c)) :
    T (d + 1) 241 10 [some (aR 188), some (aI v1), none, none] [aI u0] (G, c) Q := by
  refine e_ne1 (t := 15) (show decode (mC 241) 10 = .ok (.ifCond .ne 5, 3) by decide +kernel) (by decide) s0 (fun p1 => ?_) (fun p1 => ?_)
  · refine e_L (L' := [some (aR 188), some (aI v1), none, none]) (st' := [aR 188]) (show decode (mC 241) 15 = .ok (.aload_n 0, 1) by decide +kernel) rfl (by show (if 188 = 0 then none else some (_, _)) = _; rw [if_neg (by decide)]) ?_
    exact e_V (as := [aR 188]) (rest := []) (show decode (mC 241) 16 = .ok (.invokevirtual 299, 3) by decide +kernel) (by decide +kernel) (show (decide ((1 : Nat) = mA 214) && decide (214 < q_law)) = true by decide +kernel) rfl (show (0 : Nat) ≤ 8 by decide) (show (1 : Nat) ≤ mL 214 by decide +kernel) rfl (sh_ok hG (by decide +kernel)) (m1 p1)
  · refine e_P (st' := [aI (-1)]) (show decode (mC 241) 13 = .ok (.iconst (-1), 1) by decide +kernel) rfl rfl rfl ?_
    exact e_iret (show decode (mC 241) 14 = .ok (.ireturn, 1) by decide +kernel) rfl (z2 p1)
/-- SoulOfficeModel.queue(I)I, from 19 -/
theorem b241_19 (hG : Shp G) {v1 : Int}
    (m0 : TM d 204 [aR 188] (G, c) (fun r h' => T (d + 1) 241 23 [some (aR 188), some (aI v1), none, none] (r.toList ++ []) h' Q)) :
    T (d + 1) 241 19 [some (aR 188), some (aI v1), none, none] [] (G, c) Q := by
  refine e_L (L' := [some (aR 188), some (aI v1), none, none]) (st' := [aR 188]) (show decode (mC 241) 19 = .ok (.aload_n 0, 1) by decide +kernel) rfl (by show (if 188 = 0 then none else some (_, _)) = _; rw [if_neg (by decide)]) ?_
  exact e_V (as := [aR 188]) (rest := []) (show decode (mC 241) 20 = .ok (.invokevirtual 284, 3) by decide +kernel) (by decide +kernel) (show (decide ((1 : Nat) = mA 204) && decide (204 < q_law)) = true by decide +kernel) rfl (show (0 : Nat) ≤ 8 by decide) (show (1 : Nat) ≤ mL 204 by decide +kernel) rfl (sh_ok hG (by decide +kernel)) m0
/-- SoulOfficeModel.queue(I)I, from 23 -/
theorem b241_23 (hG : Shp G) {v1 : Int}
    (k0 : T (d + 1) 241 27 [some (aR 188), some (aI v1), some (aI 0), some (aI 0)] [] (G, c) Q) :
    T (d + 1) 241 23 [some (aR 188), some (aI v1), none, none] [] (G, c) Q := by
  refine e_P (st' := [aI 0]) (show decode (mC 241) 23 = .ok (.iconst 0, 1) by decide +kernel) rfl rfl rfl ?_
  refine e_L (L' := [some (aR 188), some (aI v1), some (aI 0), none]) (st' := []) (show decode (mC 241) 24 = .ok (.istore_n 2, 1) by decide +kernel) rfl rfl ?_
  refine e_P (st' := [aI 0]) (show decode (mC 241) 25 = .ok (.iconst 0, 1) by decide +kernel) rfl rfl rfl ?_
  refine e_L (L' := [some (aR 188), some (aI v1), some (aI 0), some (aI 0)]) (st' := []) (show decode (mC 241) 26 = .ok (.istore_n 3, 1) by decide +kernel) rfl rfl ?_
  exact k0
/-- SoulOfficeModel.queue(I)I, from 27 -/
theorem b241_27 (hG : Shp G) {v1 v2 v3 x1 x2 x3 : Int} (hQ : ∀ o o' h', q_eqo o o' → Q o h' → Q o' h')
    (ex1 : c 190 1 = x1)
    (s1 : -2147483648 ≤ v3 ∧ v3 < 2147483648)
    (s2 : -2147483648 ≤ x1 ∧ x1 < 2147483648)
    (m3 : (x1 ≤ v3) → TM d 215 [aR 188] (G, c) (fun r h' => T (d + 1) 241 84 [none, none, some (aI v2), none] (r.toList ++ []) h' Q))
    (s4 : (v3 < x1) → 0 ≤ (173 + v3))
    (s5 : (v3 < x1) → (173 + v3) < 514)
    (ex2 : c 190 (173 + v3) = x2)
    (s7 : (v3 < x1) → -2147483648 ≤ x2 ∧ x2 < 2147483648)
    (s8 : (v3 < x1) → -2147483648 ≤ (v1 + 1) ∧ (v1 + 1) < 2147483648)
    (k9 : (v3 < x1) → (¬ x2 = (v1 + 1)) → T (d + 1) 241 27 [some (aR 188), some (aI v1), some (aI (q_or v2 0)), some (aI (v3 + 1))] [] (G, c) Q)
    (s10 : (v3 < x1) → (x2 = (v1 + 1)) → 0 ≤ (5 + v3))
    (s11 : (v3 < x1) → (x2 = (v1 + 1)) → (5 + v3) < 165)
    (ex3 : c 196 (5 + v3) = x3)
    (s13 : (v3 < x1) → (x2 = (v1 + 1)) → -2147483648 ≤ x3 ∧ x3 < 2147483648)
    (k14 : (v3 < x1) → (x2 = (v1 + 1)) → (¬ x3 = 0) → T (d + 1) 241 27 [some (aR 188), some (aI v1), some (aI (q_or v2 0)), some (aI (v3 + 1))] [] (G, c) Q)
    (k15 : (v3 < x1) → (x2 = (v1 + 1)) → (x3 = 0) → T (d + 1) 241 27 [some (aR 188), some (aI v1), some (aI (q_or v2 (q_shl 1 v3))), some (aI (v3 + 1))] [] (G, c) Q) :
    T (d + 1) 241 27 [some (aR 188), some (aI v1), some (aI v2), some (aI v3)] [] (G, c) Q := by
  refine e_L (L' := [some (aR 188), some (aI v1), some (aI v2), some (aI v3)]) (st' := [aI v3]) (show decode (mC 241) 27 = .ok (.iload_n 3, 1) by decide +kernel) rfl rfl ?_
  refine e_L (L' := [some (aR 188), some (aI v1), some (aI v2), some (aI v3)]) (st' := [aR 188, aI v3]) (show decode (mC 241) 28 = .ok (.aload_n 0, 1) by decide +kernel) rfl (by show (if 188 = 0 then none else some (_, _)) = _; rw [if_neg (by decide)]) ?_
  refine e_getR (w := 190) (show decode (mC 241) 29 = .ok (.getfield 33, 3) by decide +kernel) (show pl 12 33 = some (0, 12, 6, 0) by decide +kernel) (by decide) (sh_ok hG (by decide +kernel)) (sh_rf hG (by decide +kernel)) ?_
  refine e_P (st' := [aI 1, aR 190, aI v3]) (show decode (mC 241) 32 = .ok (.iconst 1, 1) by decide +kernel) rfl rfl rfl ?_
  refine e_ialdx (n := 514) (show decode (mC 241) 33 = .ok (.iaload, 1) by decide +kernel) (sh_ok hG (by decide +kernel)) (sh_ln hG (by decide +kernel)) (by decide) (by decide) (by decide) ex1 ?_
  refine e_ge2 (t := 80) (show decode (mC 241) 34 = .ok (.if_icmp .ge 46, 3) by decide +kernel) (by decide) s1 s2 (fun p1 => ?_) (fun p1 => ?_)
  · refine e_L (L' := [some (aR 188), some (aI v1), some (aI v2), some (aI v3)]) (st' := [aR 188]) (show decode (mC 241) 80 = .ok (.aload_n 0, 1) by decide +kernel) rfl (by show (if 188 = 0 then none else some (_, _)) = _; rw [if_neg (by decide)]) ?_
    exact e_V (as := [aR 188]) (rest := []) (show decode (mC 241) 81 = .ok (.invokevirtual 305, 3) by decide +kernel) (by decide +kernel) (show (decide ((1 : Nat) = mA 215) && decide (215 < q_law)) = true by decide +kernel) rfl (show (0 : Nat) ≤ 8 by decide) (show (1 : Nat) ≤ mL 215 by decide +kernel) rfl (sh_ok hG (by decide +kernel)) (tm_le hQ (leN (leN (leS (leN leE)))) (m3 p1))
  · refine e_L (L' := [some (aR 188), some (aI v1), some (aI v2), some (aI v3)]) (st' := [aI v2]) (show decode (mC 241) 37 = .ok (.iload_n 2, 1) by decide +kernel) rfl rfl ?_
    refine e_L (L' := [some (aR 188), some (aI v1), some (aI v2), some (aI v3)]) (st' := [aR 188, aI v2]) (show decode (mC 241) 38 = .ok (.aload_n 0, 1) by decide +kernel) rfl (by show (if 188 = 0 then none else some (_, _)) = _; rw [if_neg (by decide)]) ?_
    refine e_getR (w := 190) (show decode (mC 241) 39 = .ok (.getfield 33, 3) by decide +kernel) (show pl 12 33 = some (0, 12, 6, 0) by decide +kernel) (by decide) (sh_ok hG (by decide +kernel)) (sh_rf hG (by decide +kernel)) ?_
    refine e_P (st' := [aI 173, aR 190, aI v2]) (show decode (mC 241) 42 = .ok (.sipush 173, 3) by decide +kernel) rfl rfl rfl ?_
    refine e_L (L' := [some (aR 188), some (aI v1), some (aI v2), some (aI v3)]) (st' := [aI v3, aI 173, aR 190, aI v2]) (show decode (mC 241) 45 = .ok (.iload_n 3, 1) by decide +kernel) rfl rfl ?_
    refine e_P (st' := [aI (173 + v3), aR 190, aI v2]) (show decode (mC 241) 46 = .ok (.iadd, 1) by decide +kernel) rfl rfl rfl ?_
    refine e_ialdx (n := 514) (show decode (mC 241) 47 = .ok (.iaload, 1) by decide +kernel) (sh_ok hG (by decide +kernel)) (sh_ln hG (by decide +kernel)) (by decide) (s4 p1) (s5 p1) ex2 ?_
    refine e_L (L' := [some (aR 188), some (aI v1), some (aI v2), some (aI v3)]) (st' := [aI v1, aI x2, aI v2]) (show decode (mC 241) 48 = .ok (.iload_n 1, 1) by decide +kernel) rfl rfl ?_
    refine e_P (st' := [aI 1, aI v1, aI x2, aI v2]) (show decode (mC 241) 49 = .ok (.iconst 1, 1) by decide +kernel) rfl rfl rfl ?_
    refine e_P (st' := [aI (v1 + 1), aI x2, aI v2]) (show decode (mC 241) 50 = .ok (.iadd, 1) by decide +kernel) rfl rfl rfl ?_
    refine e_ne2 (t := 71) (show decode (mC 241) 51 = .ok (.if_icmp .ne 20, 3) by decide +kernel) (by decide) (s7 p1) (s8 p1) (fun p2 => ?_) (fun p2 => ?_)
    · refine e_P (st' := [aI 0, aI v2]) (show decode (mC 241) 71 = .ok (.iconst 0, 1) by decide +kernel) rfl rfl rfl ?_
      refine e_P (st' := [aI (q_or v2 0)]) (show decode (mC 241) 72 = .ok (.ior, 1) by decide +kernel) rfl rfl rfl ?_
      refine e_L (L' := [some (aR 188), some (aI v1), some (aI (q_or v2 0)), some (aI v3)]) (st' := []) (show decode (mC 241) 73 = .ok (.istore_n 2, 1) by decide +kernel) rfl rfl ?_
      refine e_L (L' := [some (aR 188), some (aI v1), some (aI (q_or v2 0)), some (aI (v3 + 1))]) (st' := []) (show decode (mC 241) 74 = .ok (.iinc 3 1, 3) by decide +kernel) rfl rfl ?_
      refine e_go (t := 27) (show decode (mC 241) 77 = .ok (.goto (-50), 3) by decide +kernel) (by decide) ?_
      exact (k9 p1 p2)
    · refine e_L (L' := [some (aR 188), some (aI v1), some (aI v2), some (aI v3)]) (st' := [aR 188, aI v2]) (show decode (mC 241) 54 = .ok (.aload_n 0, 1) by decide +kernel) rfl (by show (if 188 = 0 then none else some (_, _)) = _; rw [if_neg (by decide)]) ?_
      refine e_getR (w := 196) (show decode (mC 241) 55 = .ok (.getfield 53, 3) by decide +kernel) (show pl 12 53 = some (0, 12, 22, 0) by decide +kernel) (by decide) (sh_ok hG (by decide +kernel)) (sh_rf hG (by decide +kernel)) ?_
      refine e_P (st' := [aI 5, aR 196, aI v2]) (show decode (mC 241) 58 = .ok (.iconst 5, 1) by decide +kernel) rfl rfl rfl ?_
      refine e_L (L' := [some (aR 188), some (aI v1), some (aI v2), some (aI v3)]) (st' := [aI v3, aI 5, aR 196, aI v2]) (show decode (mC 241) 59 = .ok (.iload_n 3, 1) by decide +kernel) rfl rfl ?_
      refine e_P (st' := [aI (5 + v3), aR 196, aI v2]) (show decode (mC 241) 60 = .ok (.iadd, 1) by decide +kernel) rfl rfl rfl ?_
      refine e_ialdx (n := 165) (show decode (mC 241) 61 = .ok (.iaload, 1) by decide +kernel) (sh_ok hG (by decide +kernel)) (sh_ln hG (by decide +kernel)) (by decide) (s10 p1 p2) (s11 p1 p2) ex3 ?_
      refine e_ne1 (t := 71) (show decode (mC 241) 62 = .ok (.ifCond .ne 9, 3) by decide +kernel) (by decide) (s13 p1 p2) (fun p3 => ?_) (fun p3 => ?_)
      · refine e_P (st' := [aI 0, aI v2]) (show decode (mC 241) 71 = .ok (.iconst 0, 1) by decide +kernel) rfl rfl rfl ?_
        refine e_P (st' := [aI (q_or v2 0)]) (show decode (mC 241) 72 = .ok (.ior, 1) by decide +kernel) rfl rfl rfl ?_
        refine e_L (L' := [some (aR 188), some (aI v1), some (aI (q_or v2 0)), some (aI v3)]) (st' := []) (show decode (mC 241) 73 = .ok (.istore_n 2, 1) by decide +kernel) rfl rfl ?_
        refine e_L (L' := [some (aR 188), some (aI v1), some (aI (q_or v2 0)), some (aI (v3 + 1))]) (st' := []) (show decode (mC 241) 74 = .ok (.iinc 3 1, 3) by decide +kernel) rfl rfl ?_
        refine e_go (t := 27) (show decode (mC 241) 77 = .ok (.goto (-50), 3) by decide +kernel) (by decide) ?_
        exact (k14 p1 p2 p3)
      · refine e_P (st' := [aI 1, aI v2]) (show decode (mC 241) 65 = .ok (.iconst 1, 1) by decide +kernel) rfl rfl rfl ?_
        refine e_L (L' := [some (aR 188), some (aI v1), some (aI v2), some (aI v3)]) (st' := [aI v3, aI 1, aI v2]) (show decode (mC 241) 66 = .ok (.iload_n 3, 1) by decide +kernel) rfl rfl ?_
        refine e_P (st' := [aI (q_shl 1 v3), aI v2]) (show decode (mC 241) 67 = .ok (.ishl, 1) by decide +kernel) rfl rfl rfl ?_
        refine e_go (t := 72) (show decode (mC 241) 68 = .ok (.goto 4, 3) by decide +kernel) (by decide) ?_
        refine e_P (st' := [aI (q_or v2 (q_shl 1 v3))]) (show decode (mC 241) 72 = .ok (.ior, 1) by decide +kernel) rfl rfl rfl ?_
        refine e_L (L' := [some (aR 188), some (aI v1), some (aI (q_or v2 (q_shl 1 v3))), some (aI v3)]) (st' := []) (show decode (mC 241) 73 = .ok (.istore_n 2, 1) by decide +kernel) rfl rfl ?_
        refine e_L (L' := [some (aR 188), some (aI v1), some (aI (q_or v2 (q_shl 1 v3))), some (aI (v3 + 1))]) (st' := []) (show decode (mC 241) 74 = .ok (.iinc 3 1, 3) by decide +kernel) rfl rfl ?_
        refine e_go (t := 27) (show decode (mC 241) 77 = .ok (.goto (-50), 3) by decide +kernel) (by decide) ?_
        exact (k15 p1 p2 p3)
/-- SoulOfficeModel.queue(I)I, from 84 -/
theorem b241_84 (hG : Shp G) {v2 : Int}
    (z0 : Q (.inl (some (aI v2))) (G, c)) :
    T (d + 1) 241 84 [none, none, some (aI v2), none] [] (G, c) Q := by
  refine e_L (L' := [none, none, some (aI v2), none]) (st' := [aI v2]) (show decode (mC 241) 84 = .ok (.iload_n 2, 1) by decide +kernel) rfl rfl ?_
  exact e_iret (show decode (mC 241) 85 = .ok (.ireturn, 1) by decide +kernel) rfl z0
end QB30
