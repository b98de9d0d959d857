section QB29
variable {d : Nat} {G : GG} {c : CC} {Q : OO → HH → Prop}
/-- SoulOfficeModel.groupsAll(I)I, from 18 -/
theorem b224_18 (hG : Shp G) {v1 v2 v3 x1 x2 : Int} (hQ : ∀ o o' h', q_eqo o o' → Q o h' → Q o' h')
    (s0 : -2147483648 ≤ v3 ∧ v3 < 2147483648)
    (s1 : (8 ≤ v3) → 0 ≤ v2)
    (s2 : (8 ≤ v3) → v2 < 256)
    (ex1 : c 200 v2 = x1)
    (ex2 : c 201 v2 = x2)
    (s5 : (8 ≤ v3) → -2147483648 ≤ x2 ∧ x2 < 2147483648)
    (k6 : (8 ≤ v3) → (¬ x2 = 0) → T (d + 1) 224 2 [some (aR 188), some (aI v1), some (aI (v2 + 1)), none] [] (G, (q_up c 200 v2 (x1 + 0))) Q)
    (k7 : (8 ≤ v3) → (x2 = 0) → T (d + 1) 224 2 [some (aR 188), some (aI v1), some (aI (v2 + 1)), none] [] (G, (q_up c 200 v2 (x1 + 1))) Q)
    (m8 : (v3 < 8) → TM d 165 [aI v2, aI v3] (G, c) (fun r h' => T (d + 1) 224 29 [some (aR 188), some (aI v1), some (aI v2), some (aI v3)] (r.toList ++ []) h' Q)) :
    T (d + 1) 224 18 [some (aR 188), some (aI v1), some (aI v2), some (aI v3)] [] (G, c) Q := by
  refine e_L (L' := [some (aR 188), some (aI v1), some (aI v2), some (aI v3)]) (st' := [aI v3]) (show decode (mC 224) 18 = .ok (.iload_n 3, 1) by decide +kernel) rfl rfl ?_
  refine e_P (st' := [aI 8, aI v3]) (show decode (mC 224) 19 = .ok (.bipush 8, 2) by decide +kernel) rfl rfl rfl ?_
  refine e_ge2 (t := 113) (show decode (mC 224) 21 = .ok (.if_icmp .ge 92, 3) by decide +kernel) (by decide) s0 (by decide) (fun p1 => ?_) (fun p1 => ?_)
  · refine e_L (L' := [some (aR 188), some (aI v1), some (aI v2), some (aI v3)]) (st' := [aR 188]) (show decode (mC 224) 113 = .ok (.aload_n 0, 1) by decide +kernel) rfl (by show (if 188 = 0 then none else some (_, _)) = _; rw [if_neg (by decide)]) ?_
    refine e_getR (w := 200) (show decode (mC 224) 114 = .ok (.getfield 68, 3) by decide +kernel) (show pl 12 68 = some (0, 12, 28, 0) by decide +kernel) (by decide) (sh_ok hG (by decide +kernel)) (sh_rf hG (by decide +kernel)) ?_
    refine e_L (L' := [some (aR 188), some (aI v1), some (aI v2), some (aI v3)]) (st' := [aI v2, aR 200]) (show decode (mC 224) 117 = .ok (.iload_n 2, 1) by decide +kernel) rfl rfl ?_
    refine e_P (st' := [aI v2, aR 200, aI v2, aR 200]) (show decode (mC 224) 118 = .ok (.dup2, 1) by decide +kernel) rfl rfl rfl ?_
    refine e_ialdx (n := 256) (show decode (mC 224) 119 = .ok (.iaload, 1) by decide +kernel) (sh_ok hG (by decide +kernel)) (sh_ln hG (by decide +kernel)) (by decide) (s1 p1) (s2 p1) ex1 ?_
    refine e_L (L' := [some (aR 188), some (aI v1), some (aI v2), some (aI v3)]) (st' := [aR 188, aI x1, aI v2, aR 200]) (show decode (mC 224) 120 = .ok (.aload_n 0, 1) by decide +kernel) rfl (by show (if 188 = 0 then none else some (_, _)) = _; rw [if_neg (by decide)]) ?_
    refine e_getR (w := 201) (show decode (mC 224) 121 = .ok (.getfield 71, 3) by decide +kernel) (show pl 12 71 = some (0, 12, 29, 0) by decide +kernel) (by decide) (sh_ok hG (by decide +kernel)) (sh_rf hG (by decide +kernel)) ?_
    refine e_L (L' := [some (aR 188), some (aI v1), some (aI v2), some (aI v3)]) (st' := [aI v2, aR 201, aI x1, aI v2, aR 200]) (show decode (mC 224) 124 = .ok (.iload_n 2, 1) by decide +kernel) rfl rfl ?_
    refine e_ialdx (n := 256) (show decode (mC 224) 125 = .ok (.iaload, 1) by decide +kernel) (sh_ok hG (by decide +kernel)) (sh_ln hG (by decide +kernel)) (by decide) (s1 p1) (s2 p1) ex2 ?_
    refine e_ne1 (t := 133) (show decode (mC 224) 126 = .ok (.ifCond .ne 7, 3) by decide +kernel) (by decide) (s5 p1) (fun p2 => ?_) (fun p2 => ?_)
    · refine e_P (st' := [aI 0, aI x1, aI v2, aR 200]) (show decode (mC 224) 133 = .ok (.iconst 0, 1) by decide +kernel) rfl rfl rfl ?_
      refine e_P (st' := [aI (x1 + 0), aI v2, aR 200]) (show decode (mC 224) 134 = .ok (.iadd, 1) by decide +kernel) rfl rfl rfl ?_
      refine e_iast (n := 256) (show decode (mC 224) 135 = .ok (.iastore, 1) by decide +kernel) (sh_ok hG (by decide +kernel)) (sh_ln hG (by decide +kernel)) (by decide) (s1 p1) (s2 p1) ?_
      refine e_L (L' := [some (aR 188), some (aI v1), some (aI (v2 + 1)), some (aI v3)]) (st' := []) (show decode (mC 224) 136 = .ok (.iinc 2 1, 3) by decide +kernel) rfl rfl ?_
      refine e_go (t := 2) (show decode (mC 224) 139 = .ok (.goto (-137), 3) by decide +kernel) (by decide) ?_
      exact T_le hQ (leS (leS (leS (leN leE)))) (k6 p1 p2)
    · refine e_P (st' := [aI 1, aI x1, aI v2, aR 200]) (show decode (mC 224) 129 = .ok (.iconst 1, 1) by decide +kernel) rfl rfl rfl ?_
      refine e_go (t := 134) (show decode (mC 224) 130 = .ok (.goto 4, 3) by decide +kernel) (by decide) ?_
      refine e_P (st' := [aI (x1 + 1), aI v2, aR 200]) (show decode (mC 224) 134 = .ok (.iadd, 1) by decide +kernel) rfl rfl rfl ?_
      refine e_iast (n := 256) (show decode (mC 224) 135 = .ok (.iastore, 1) by decide +kernel) (sh_ok hG (by decide +kernel)) (sh_ln hG (by decide +kernel)) (by decide) (s1 p1) (s2 p1) ?_
      refine e_L (L' := [some (aR 188), some (aI v1), some (aI (v2 + 1)), some (aI v3)]) (st' := []) (show decode (mC 224) 136 = .ok (.iinc 2 1, 3) by decide +kernel) rfl rfl ?_
      refine e_go (t := 2) (show decode (mC 224) 139 = .ok (.goto (-137), 3) by decide +kernel) (by decide) ?_
      exact T_le hQ (leS (leS (leS (leN leE)))) (k7 p1 p2)
  · refine e_L (L' := [some (aR 188), some (aI v1), some (aI v2), some (aI v3)]) (st' := [aI v2]) (show decode (mC 224) 24 = .ok (.iload_n 2, 1) by decide +kernel) rfl rfl ?_
    refine e_L (L' := [some (aR 188), some (aI v1), some (aI v2), some (aI v3)]) (st' := [aI v3, aI v2]) (show decode (mC 224) 25 = .ok (.iload_n 3, 1) by decide +kernel) rfl rfl ?_
    exact e_S (as := [aI v2, aI v3]) (rest := []) (show decode (mC 224) 26 = .ok (.invokestatic 219, 3) by decide +kernel) (by decide +kernel) (show (decide ((2 : Nat) = mA 165) && decide (165 < q_law)) = true by decide +kernel) rfl (show (0 : Nat) ≤ 8 by decide) (show (2 : Nat) ≤ mL 165 by decide +kernel) (m8 p1)
/-- SoulOfficeModel.groupsAll(I)I, from 29 -/
theorem b224_29 (hG : Shp G) {v1 v2 v3 u0 x1 : Int}
    (s0 : -2147483648 ≤ u0 ∧ u0 < 2147483648)
    (s1 : (¬ u0 = 0) → 0 ≤ (q_and v2 (q_xor (q_shl 1 v3) (-1))))
    (s2 : (¬ u0 = 0) → (q_and v2 (q_xor (q_shl 1 v3) (-1))) < 256)
    (ex1 : c 201 (q_and v2 (q_xor (q_shl 1 v3) (-1))) = x1)
    (m4 : (¬ u0 = 0) → TM d 222 [aR 188, aI v3] (G, c) (fun r h' => T (d + 1) 224 57 [some (aR 188), some (aI v1), some (aI v2), some (aI v3)] (r.toList ++ [aI x1, aI v2, aR 201]) h' Q))
    (k5 : (u0 = 0) → T (d + 1) 224 18 [some (aR 188), some (aI v1), some (aI v2), some (aI (v3 + 1))] [] (G, c) Q) :
    T (d + 1) 224 29 [some (aR 188), some (aI v1), some (aI v2), some (aI v3)] [aI u0] (G, c) Q := by
  refine e_ne1 (t := 35) (show decode (mC 224) 29 = .ok (.ifCond .ne 6, 3) by decide +kernel) (by decide) s0 (fun p1 => ?_) (fun p1 => ?_)
  · refine e_L (L' := [some (aR 188), some (aI v1), some (aI v2), some (aI v3)]) (st' := [aR 188]) (show decode (mC 224) 35 = .ok (.aload_n 0, 1) by decide +kernel) rfl (by show (if 188 = 0 then none else some (_, _)) = _; rw [if_neg (by decide)]) ?_
    refine e_getR (w := 201) (show decode (mC 224) 36 = .ok (.getfield 71, 3) by decide +kernel) (show pl 12 71 = some (0, 12, 29, 0) by decide +kernel) (by decide) (sh_ok hG (by decide +kernel)) (sh_rf hG (by decide +kernel)) ?_
    refine e_L (L' := [some (aR 188), some (aI v1), some (aI v2), some (aI v3)]) (st' := [aI v2, aR 201]) (show decode (mC 224) 39 = .ok (.iload_n 2, 1) by decide +kernel) rfl rfl ?_
    refine e_L (L' := [some (aR 188), some (aI v1), some (aI v2), some (aI v3)]) (st' := [aR 188, aI v2, aR 201]) (show decode (mC 224) 40 = .ok (.aload_n 0, 1) by decide +kernel) rfl (by show (if 188 = 0 then none else some (_, _)) = _; rw [if_neg (by decide)]) ?_
    refine e_getR (w := 201) (show decode (mC 224) 41 = .ok (.getfield 71, 3) by decide +kernel) (show pl 12 71 = some (0, 12, 29, 0) by decide +kernel) (by decide) (sh_ok hG (by decide +kernel)) (sh_rf hG (by decide +kernel)) ?_
    refine e_L (L' := [some (aR 188), some (aI v1), some (aI v2), some (aI v3)]) (st' := [aI v2, aR 201, aI v2, aR 201]) (show decode (mC 224) 44 = .ok (.iload_n 2, 1) by decide +kernel) rfl rfl ?_
    refine e_P (st' := [aI 1, aI v2, aR 201, aI v2, aR 201]) (show decode (mC 224) 45 = .ok (.iconst 1, 1) by decide +kernel) rfl rfl rfl ?_
    refine e_L (L' := [some (aR 188), some (aI v1), some (aI v2), some (aI v3)]) (st' := [aI v3, aI 1, aI v2, aR 201, aI v2, aR 201]) (show decode (mC 224) 46 = .ok (.iload_n 3, 1) by decide +kernel) rfl rfl ?_
    refine e_P (st' := [aI (q_shl 1 v3), aI v2, aR 201, aI v2, aR 201]) (show decode (mC 224) 47 = .ok (.ishl, 1) by decide +kernel) rfl rfl rfl ?_
    refine e_P (st' := [aI (-1), aI (q_shl 1 v3), aI v2, aR 201, aI v2, aR 201]) (show decode (mC 224) 48 = .ok (.iconst (-1), 1) by decide +kernel) rfl rfl rfl ?_
    refine e_P (st' := [aI (q_xor (q_shl 1 v3) (-1)), aI v2, aR 201, aI v2, aR 201]) (show decode (mC 224) 49 = .ok (.ixor, 1) by decide +kernel) rfl rfl rfl ?_
    refine e_P (st' := [aI (q_and v2 (q_xor (q_shl 1 v3) (-1))), aR 201, aI v2, aR 201]) (show decode (mC 224) 50 = .ok (.iand, 1) by decide +kernel) rfl rfl rfl ?_
    refine e_ialdx (n := 256) (show decode (mC 224) 51 = .ok (.iaload, 1) by decide +kernel) (sh_ok hG (by decide +kernel)) (sh_ln hG (by decide +kernel)) (by decide) (s1 p1) (s2 p1) ex1 ?_
    refine e_L (L' := [some (aR 188), some (aI v1), some (aI v2), some (aI v3)]) (st' := [aR 188, aI x1, aI v2, aR 201]) (show decode (mC 224) 52 = .ok (.aload_n 0, 1) by decide +kernel) rfl (by show (if 188 = 0 then none else some (_, _)) = _; rw [if_neg (by decide)]) ?_
    refine e_L (L' := [some (aR 188), some (aI v1), some (aI v2), some (aI v3)]) (st' := [aI v3, aR 188, aI x1, aI v2, aR 201]) (show decode (mC 224) 53 = .ok (.iload_n 3, 1) by decide +kernel) rfl rfl ?_
    exact e_V (as := [aR 188, aI v3]) (rest := [aI x1, aI v2, aR 201]) (show decode (mC 224) 54 = .ok (.invokevirtual 314, 3) by decide +kernel) (by decide +kernel) (show (decide ((2 : Nat) = mA 222) && decide (222 < q_law)) = true by decide +kernel) rfl (show (3 : Nat) ≤ 8 by decide) (show (2 : Nat) ≤ mL 222 by decide +kernel) rfl (sh_ok hG (by decide +kernel)) (m4 p1)
  · refine e_go (t := 107) (show decode (mC 224) 32 = .ok (.goto 75, 3) by decide +kernel) (by decide) ?_
    refine e_L (L' := [some (aR 188), some (aI v1), some (aI v2), some (aI (v3 + 1))]) (st' := []) (show decode (mC 224) 107 = .ok (.iinc 3 1, 3) by decide +kernel) rfl rfl ?_
    refine e_go (t := 18) (show decode (mC 224) 110 = .ok (.goto (-92), 3) by decide +kernel) (by decide) ?_
    exact (k5 p1)
/-- SoulOfficeModel.groupsAll(I)I, from 57 -/
theorem b224_57 (hG : Shp G) {v1 v2 v3 u1 u2 u3 x1 x2 x3 x4 : Int}
    (s0 : 0 ≤ u1)
    (s1 : u1 < 256)
    (s2 : 0 ≤ v2)
    (s3 : v2 < 256)
    (ex1 : (q_up c 201 u1 (u2 + u3)) 200 v2 = x1)
    (s5 : 0 ≤ (q_and v2 (q_xor (q_shl 1 v3) (-1))))
    (s6 : (q_and v2 (q_xor (q_shl 1 v3) (-1))) < 256)
    (ex2 : (q_up c 201 u1 (u2 + u3)) 200 (q_and v2 (q_xor (q_shl 1 v3) (-1))) = x2)
    (s8 : -2147483648 ≤ x1 ∧ x1 < 2147483648)
    (s9 : -2147483648 ≤ x2 ∧ x2 < 2147483648)
    (ex3 : (q_up c 201 u1 (u2 + u3)) 200 (q_and v2 (q_xor (q_shl 1 v3) (-1))) = x3)
    (k11 : (x1 ≤ x2) → T (d + 1) 224 18 [some (aR 188), some (aI v1), some (aI v2), some (aI (v3 + 1))] [] (G, (q_up (q_up c 201 u1 (u2 + u3)) 200 v2 x3)) Q)
    (ex4 : (q_up c 201 u1 (u2 + u3)) 200 v2 = x4)
    (k13 : (x2 < x1) → T (d + 1) 224 18 [some (aR 188), some (aI v1), some (aI v2), some (aI (v3 + 1))] [] (G, (q_up (q_up c 201 u1 (u2 + u3)) 200 v2 x4)) Q) :
    T (d + 1) 224 57 [some (aR 188), some (aI v1), some (aI v2), some (aI v3)] [aI u3, aI u2, aI u1, aR 201] (G, c) Q := by
  refine e_P (st' := [aI (u2 + u3), aI u1, aR 201]) (show decode (mC 224) 57 = .ok (.iadd, 1) by decide +kernel) rfl rfl rfl ?_
  refine e_iast (n := 256) (show decode (mC 224) 58 = .ok (.iastore, 1) by decide +kernel) (sh_ok hG (by decide +kernel)) (sh_ln hG (by decide +kernel)) (by decide) s0 s1 ?_
  refine e_L (L' := [some (aR 188), some (aI v1), some (aI v2), some (aI v3)]) (st' := [aR 188]) (show decode (mC 224) 59 = .ok (.aload_n 0, 1) by decide +kernel) rfl (by show (if 188 = 0 then none else some (_, _)) = _; rw [if_neg (by decide)]) ?_
  refine e_getR (w := 200) (show decode (mC 224) 60 = .ok (.getfield 68, 3) by decide +kernel) (show pl 12 68 = some (0, 12, 28, 0) by decide +kernel) (by decide) (sh_ok hG (by decide +kernel)) (sh_rf hG (by decide +kernel)) ?_
  refine e_L (L' := [some (aR 188), some (aI v1), some (aI v2), some (aI v3)]) (st' := [aI v2, aR 200]) (show decode (mC 224) 63 = .ok (.iload_n 2, 1) by decide +kernel) rfl rfl ?_
  refine e_L (L' := [some (aR 188), some (aI v1), some (aI v2), some (aI v3)]) (st' := [aR 188, aI v2, aR 200]) (show decode (mC 224) 64 = .ok (.aload_n 0, 1) by decide +kernel) rfl (by show (if 188 = 0 then none else some (_, _)) = _; rw [if_neg (by decide)]) ?_
  refine e_getR (w := 200) (show decode (mC 224) 65 = .ok (.getfield 68, 3) by decide +kernel) (show pl 12 68 = some (0, 12, 28, 0) by decide +kernel) (by decide) (sh_ok hG (by decide +kernel)) (sh_rf hG (by decide +kernel)) ?_
  refine e_L (L' := [some (aR 188), some (aI v1), some (aI v2), some (aI v3)]) (st' := [aI v2, aR 200, aI v2, aR 200]) (show decode (mC 224) 68 = .ok (.iload_n 2, 1) by decide +kernel) rfl rfl ?_
  refine e_ialdx (n := 256) (show decode (mC 224) 69 = .ok (.iaload, 1) by decide +kernel) (sh_ok hG (by decide +kernel)) (sh_ln hG (by decide +kernel)) (by decide) s2 s3 ex1 ?_
  refine e_L (L' := [some (aR 188), some (aI v1), some (aI v2), some (aI v3)]) (st' := [aR 188, aI x1, aI v2, aR 200]) (show decode (mC 224) 70 = .ok (.aload_n 0, 1) by decide +kernel) rfl (by show (if 188 = 0 then none else some (_, _)) = _; rw [if_neg (by decide)]) ?_
  refine e_getR (w := 200) (show decode (mC 224) 71 = .ok (.getfield 68, 3) by decide +kernel) (show pl 12 68 = some (0, 12, 28, 0) by decide +kernel) (by decide) (sh_ok hG (by decide +kernel)) (sh_rf hG (by decide +kernel)) ?_
  refine e_L (L' := [some (aR 188), some (aI v1), some (aI v2), some (aI v3)]) (st' := [aI v2, aR 200, aI x1, aI v2, aR 200]) (show decode (mC 224) 74 = .ok (.iload_n 2, 1) by decide +kernel) rfl rfl ?_
  refine e_P (st' := [aI 1, aI v2, aR 200, aI x1, aI v2, aR 200]) (show decode (mC 224) 75 = .ok (.iconst 1, 1) by decide +kernel) rfl rfl rfl ?_
  refine e_L (L' := [some (aR 188), some (aI v1), some (aI v2), some (aI v3)]) (st' := [aI v3, aI 1, aI v2, aR 200, aI x1, aI v2, aR 200]) (show decode (mC 224) 76 = .ok (.iload_n 3, 1) by decide +kernel) rfl rfl ?_
  refine e_P (st' := [aI (q_shl 1 v3), aI v2, aR 200, aI x1, aI v2, aR 200]) (show decode (mC 224) 77 = .ok (.ishl, 1) by decide +kernel) rfl rfl rfl ?_
  refine e_P (st' := [aI (-1), aI (q_shl 1 v3), aI v2, aR 200, aI x1, aI v2, aR 200]) (show decode (mC 224) 78 = .ok (.iconst (-1), 1) by decide +kernel) rfl rfl rfl ?_
  refine e_P (st' := [aI (q_xor (q_shl 1 v3) (-1)), aI v2, aR 200, aI x1, aI v2, aR 200]) (show decode (mC 224) 79 = .ok (.ixor, 1) by decide +kernel) rfl rfl rfl ?_
  refine e_P (st' := [aI (q_and v2 (q_xor (q_shl 1 v3) (-1))), aR 200, aI x1, aI v2, aR 200]) (show decode (mC 224) 80 = .ok (.iand, 1) by decide +kernel) rfl rfl rfl ?_
  refine e_ialdx (n := 256) (show decode (mC 224) 81 = .ok (.iaload, 1) by decide +kernel) (sh_ok hG (by decide +kernel)) (sh_ln hG (by decide +kernel)) (by decide) s5 s6 ex2 ?_
  refine e_le2 (t := 94) (show decode (mC 224) 82 = .ok (.if_icmp .le 12, 3) by decide +kernel) (by decide) s8 s9 (fun p1 => ?_) (fun p1 => ?_)
  · refine e_L (L' := [some (aR 188), some (aI v1), some (aI v2), some (aI v3)]) (st' := [aR 188, aI v2, aR 200]) (show decode (mC 224) 94 = .ok (.aload_n 0, 1) by decide +kernel) rfl (by show (if 188 = 0 then none else some (_, _)) = _; rw [if_neg (by decide)]) ?_
    refine e_getR (w := 200) (show decode (mC 224) 95 = .ok (.getfield 68, 3) by decide +kernel) (show pl 12 68 = some (0, 12, 28, 0) by decide +kernel) (by decide) (sh_ok hG (by decide +kernel)) (sh_rf hG (by decide +kernel)) ?_
    refine e_L (L' := [some (aR 188), some (aI v1), some (aI v2), some (aI v3)]) (st' := [aI v2, aR 200, aI v2, aR 200]) (show decode (mC 224) 98 = .ok (.iload_n 2, 1) by decide +kernel) rfl rfl ?_
    refine e_P (st' := [aI 1, aI v2, aR 200, aI v2, aR 200]) (show decode (mC 224) 99 = .ok (.iconst 1, 1) by decide +kernel) rfl rfl rfl ?_
    refine e_L (L' := [some (aR 188), some (aI v1), some (aI v2), some (aI v3)]) (st' := [aI v3, aI 1, aI v2, aR 200, aI v2, aR 200]) (show decode (mC 224) 100 = .ok (.iload_n 3, 1) by decide +kernel) rfl rfl ?_
    refine e_P (st' := [aI (q_shl 1 v3), aI v2, aR 200, aI v2, aR 200]) (show decode (mC 224) 101 = .ok (.ishl, 1) by decide +kernel) rfl rfl rfl ?_
    refine e_P (st' := [aI (-1), aI (q_shl 1 v3), aI v2, aR 200, aI v2, aR 200]) (show decode (mC 224) 102 = .ok (.iconst (-1), 1) by decide +kernel) rfl rfl rfl ?_
    refine e_P (st' := [aI (q_xor (q_shl 1 v3) (-1)), aI v2, aR 200, aI v2, aR 200]) (show decode (mC 224) 103 = .ok (.ixor, 1) by decide +kernel) rfl rfl rfl ?_
    refine e_P (st' := [aI (q_and v2 (q_xor (q_shl 1 v3) (-1))), aR 200, aI v2, aR 200]) (show decode (mC 224) 104 = .ok (.iand, 1) by decide +kernel) rfl rfl rfl ?_
    refine e_ialdx (n := 256) (show decode (mC 224) 105 = .ok (.iaload, 1) by decide +kernel) (sh_ok hG (by decide +kernel)) (sh_ln hG (by decide +kernel)) (by decide) s5 s6 ex3 ?_
    refine e_iast (n := 256) (show decode (mC 224) 106 = .ok (.iastore, 1) by decide +kernel) (sh_ok hG (by decide +kernel)) (sh_ln hG (by decide +kernel)) (by decide) s2 s3 ?_
    refine e_L (L' := [some (aR 188), some (aI v1), some (aI v2), some (aI (v3 + 1))]) (st' := []) (show decode (mC 224) 107 = .ok (.iinc 3 1, 3) by decide +kernel) rfl rfl ?_
    refine e_go (t := 18) (show decode (mC 224) 110 = .ok (.goto (-92), 3) by decide +kernel) (by decide) ?_
    exact (k11 p1)
  · refine e_L (L' := [some (aR 188), some (aI v1), some (aI v2), some (aI v3)]) (st' := [aR 188, aI v2, aR 200]) (show decode (mC 224) 85 = .ok (.aload_n 0, 1) by decide +kernel) rfl (by show (if 188 = 0 then none else some (_, _)) = _; rw [if_neg (by decide)]) ?_
    refine e_getR (w := 200) (show decode (mC 224) 86 = .ok (.getfield 68, 3) by decide +kernel) (show pl 12 68 = some (0, 12, 28, 0) by decide +kernel) (by decide) (sh_ok hG (by decide +kernel)) (sh_rf hG (by decide +kernel)) ?_
    refine e_L (L' := [some (aR 188), some (aI v1), some (aI v2), some (aI v3)]) (st' := [aI v2, aR 200, aI v2, aR 200]) (show decode (mC 224) 89 = .ok (.iload_n 2, 1) by decide +kernel) rfl rfl ?_
    refine e_ialdx (n := 256) (show decode (mC 224) 90 = .ok (.iaload, 1) by decide +kernel) (sh_ok hG (by decide +kernel)) (sh_ln hG (by decide +kernel)) (by decide) s2 s3 ex4 ?_
    refine e_go (t := 106) (show decode (mC 224) 91 = .ok (.goto 15, 3) by decide +kernel) (by decide) ?_
    refine e_iast (n := 256) (show decode (mC 224) 106 = .ok (.iastore, 1) by decide +kernel) (sh_ok hG (by decide +kernel)) (sh_ln hG (by decide +kernel)) (by decide) s2 s3 ?_
    refine e_L (L' := [some (aR 188), some (aI v1), some (aI v2), some (aI (v3 + 1))]) (st' := []) (show decode (mC 224) 107 = .ok (.iinc 3 1, 3) by decide +kernel) rfl rfl ?_
    refine e_go (t := 18) (show decode (mC 224) 110 = .ok (.goto (-92), 3) by decide +kernel) (by decide) ?_
    exact (k13 p1)
/-- SoulOfficeModel.withNet()I, from 0 -/
theorem b225_0 (hG : Shp G)
    (k0 : T (d + 1) 225 4 [some (aR 188), some (aI 0), some (aI 0)] [] (G, c) Q) :
    T (d + 1) 225 0 [some (aR 188), none, none] [] (G, c) Q := by
  refine e_P (st' := [aI 0]) (show decode (mC 225) 0 = .ok (.iconst 0, 1) by decide +kernel) rfl rfl rfl ?_
  refine e_L (L' := [some (aR 188), some (aI 0), none]) (st' := []) (show decode (mC 225) 1 = .ok (.istore_n 1, 1) by decide +kernel) rfl rfl ?_
  refine e_P (st' := [aI 0]) (show decode (mC 225) 2 = .ok (.iconst 0, 1) by decide +kernel) rfl rfl rfl ?_
  refine e_L (L' := [some (aR 188), some (aI 0), some (aI 0)]) (st' := []) (show decode (mC 225) 3 = .ok (.istore_n 2, 1) by decide +kernel) rfl rfl ?_
  exact k0
/-- SoulOfficeModel.withNet()I, from 4 -/
theorem b225_4 (hG : Shp G) {v1 v2 : Int} (hQ : ∀ o o' h', q_eqo o o' → Q o h' → Q o' h')
    (s0 : -2147483648 ≤ v2 ∧ v2 < 2147483648)
    (z1 : (8 ≤ v2) → Q (.inl (some (aI v1))) (G, c))
    (m2 : (v2 < 8) → TM d 222 [aR 188, aI v2] (G, c) (fun r h' => T (d + 1) 225 16 [some (aR 188), none, some (aI v2)] (r.toList ++ [aI v1]) h' Q)) :
    T (d + 1) 225 4 [some (aR 188), some (aI v1), some (aI v2)] [] (G, c) Q := by
  refine e_L (L' := [some (aR 188), some (aI v1), some (aI v2)]) (st' := [aI v2]) (show decode (mC 225) 4 = .ok (.iload_n 2, 1) by decide +kernel) rfl rfl ?_
  refine e_P (st' := [aI 8, aI v2]) (show decode (mC 225) 5 = .ok (.bipush 8, 2) by decide +kernel) rfl rfl rfl ?_
  refine e_ge2 (t := 34) (show decode (mC 225) 7 = .ok (.if_icmp .ge 27, 3) by decide +kernel) (by decide) s0 (by decide) (fun p1 => ?_) (fun p1 => ?_)
  · refine e_L (L' := [some (aR 188), some (aI v1), some (aI v2)]) (st' := [aI v1]) (show decode (mC 225) 34 = .ok (.iload_n 1, 1) by decide +kernel) rfl rfl ?_
    exact e_iret (show decode (mC 225) 35 = .ok (.ireturn, 1) by decide +kernel) rfl (z1 p1)
  · refine e_L (L' := [some (aR 188), some (aI v1), some (aI v2)]) (st' := [aI v1]) (show decode (mC 225) 10 = .ok (.iload_n 1, 1) by decide +kernel) rfl rfl ?_
    refine e_L (L' := [some (aR 188), some (aI v1), some (aI v2)]) (st' := [aR 188, aI v1]) (show decode (mC 225) 11 = .ok (.aload_n 0, 1) by decide +kernel) rfl (by show (if 188 = 0 then none else some (_, _)) = _; rw [if_neg (by decide)]) ?_
    refine e_L (L' := [some (aR 188), some (aI v1), some (aI v2)]) (st' := [aI v2, aR 188, aI v1]) (show decode (mC 225) 12 = .ok (.iload_n 2, 1) by decide +kernel) rfl rfl ?_
    exact e_V (as := [aR 188, aI v2]) (rest := [aI v1]) (show decode (mC 225) 13 = .ok (.invokevirtual 314, 3) by decide +kernel) (by decide +kernel) (show (decide ((2 : Nat) = mA 222) && decide (222 < q_law)) = true by decide +kernel) rfl (show (1 : Nat) ≤ 8 by decide) (show (2 : Nat) ≤ mL 222 by decide +kernel) rfl (sh_ok hG (by decide +kernel)) (tm_le hQ (leS (leN (leS leE))) (m2 p1))
/-- SoulOfficeModel.withNet()I, from 16 -/
theorem b225_16 (hG : Shp G) {v2 u0 u1 : Int}
    (s0 : -2147483648 ≤ u1 ∧ u1 < 2147483648)
    (k1 : (u1 = 0) → T (d + 1) 225 4 [some (aR 188), some (aI (q_or u0 0)), some (aI (v2 + 1))] [] (G, c) Q)
    (k2 : (¬ u1 = 0) → T (d + 1) 225 4 [some (aR 188), some (aI (q_or u0 (q_shl 1 v2))), some (aI (v2 + 1))] [] (G, c) Q) :
    T (d + 1) 225 16 [some (aR 188), none, some (aI v2)] [aI u1, aI u0] (G, c) Q := by
  refine e_eq1 (t := 25) (show decode (mC 225) 16 = .ok (.ifCond .eq 9, 3) by decide +kernel) (by decide) s0 (fun p1 => ?_) (fun p1 => ?_)
  · refine e_P (st' := [aI 0, aI u0]) (show decode (mC 225) 25 = .ok (.iconst 0, 1) by decide +kernel) rfl rfl rfl ?_
    refine e_P (st' := [aI (q_or u0 0)]) (show decode (mC 225) 26 = .ok (.ior, 1) by decide +kernel) rfl rfl rfl ?_
    refine e_L (L' := [some (aR 188), some (aI (q_or u0 0)), some (aI v2)]) (st' := []) (show decode (mC 225) 27 = .ok (.istore_n 1, 1) by decide +kernel) rfl rfl ?_
    refine e_L (L' := [some (aR 188), some (aI (q_or u0 0)), some (aI (v2 + 1))]) (st' := []) (show decode (mC 225) 28 = .ok (.iinc 2 1, 3) by decide +kernel) rfl rfl ?_
    refine e_go (t := 4) (show decode (mC 225) 31 = .ok (.goto (-27), 3) by decide +kernel) (by decide) ?_
    exact (k1 p1)
  · refine e_P (st' := [aI 1, aI u0]) (show decode (mC 225) 19 = .ok (.iconst 1, 1) by decide +kernel) rfl rfl rfl ?_
    refine e_L (L' := [some (aR 188), none, some (aI v2)]) (st' := [aI v2, aI 1, aI u0]) (show decode (mC 225) 20 = .ok (.iload_n 2, 1) by decide +kernel) rfl rfl ?_
    refine e_P (st' := [aI (q_shl 1 v2), aI u0]) (show decode (mC 225) 21 = .ok (.ishl, 1) by decide +kernel) rfl rfl rfl ?_
    refine e_go (t := 26) (show decode (mC 225) 22 = .ok (.goto 4, 3) by decide +kernel) (by decide) ?_
    refine e_P (st' := [aI (q_or u0 (q_shl 1 v2))]) (show decode (mC 225) 26 = .ok (.ior, 1) by decide +kernel) rfl rfl rfl ?_
    refine e_L (L' := [some (aR 188), some (aI (q_or u0 (q_shl 1 v2))), some (aI v2)]) (st' := []) (show decode (mC 225) 27 = .ok (.istore_n 1, 1) by decide +kernel) rfl rfl ?_
    refine e_L (L' := [some (aR 188), some (aI (q_or u0 (q_shl 1 v2))), some (aI (v2 + 1))]) (st' := []) (show decode (mC 225) 28 = .ok (.iinc 2 1, 3) by decide +kernel) rfl rfl ?_
    refine e_go (t := 4) (show decode (mC 225) 31 = .ok (.goto (-27), 3) by decide +kernel) (by decide) ?_
    exact (k2 p1)
/-- SoulOfficeModel.bits(I)I, from 0 -/
theorem b226_0 (hG : Shp G) {v0 : Int} (hQ : ∀ o o' h', q_eqo o o' → Q o h' → Q o' h')
    (k0 : T d 226 4 [none, some (aI 0), some (aI v0)] [] (G, c) Q) :
    T d 226 0 [some (aI v0), none, none] [] (G, c) Q := by
  refine e_P (st' := [aI 0]) (show decode (mC 226) 0 = .ok (.iconst 0, 1) by decide +kernel) rfl rfl rfl ?_
  refine e_L (L' := [some (aI v0), some (aI 0), none]) (st' := []) (show decode (mC 226) 1 = .ok (.istore_n 1, 1) by decide +kernel) rfl rfl ?_
  refine e_L (L' := [some (aI v0), some (aI 0), none]) (st' := [aI v0]) (show decode (mC 226) 2 = .ok (.iload_n 0, 1) by decide +kernel) rfl rfl ?_
  refine e_L (L' := [some (aI v0), some (aI 0), some (aI v0)]) (st' := []) (show decode (mC 226) 3 = .ok (.istore_n 2, 1) by decide +kernel) rfl rfl ?_
  exact T_le hQ (leN (leS (leS leE))) k0
/-- SoulOfficeModel.bits(I)I, from 4 -/
theorem b226_4 (hG : Shp G) {v1 v2 : Int}
    (s0 : -2147483648 ≤ v2 ∧ v2 < 2147483648)
    (z1 : (v2 = 0) → Q (.inl (some (aI v1))) (G, c))
    (k2 : (¬ v2 = 0) → T d 226 4 [none, some (aI (v1 + 1)), some (aI (q_and v2 (v2 - 1)))] [] (G, c) Q) :
    T d 226 4 [none, some (aI v1), some (aI v2)] [] (G, c) Q := by
  refine e_L (L' := [none, some (aI v1), some (aI v2)]) (st' := [aI v2]) (show decode (mC 226) 4 = .ok (.iload_n 2, 1) by decide +kernel) rfl rfl ?_
  refine e_eq1 (t := 20) (show decode (mC 226) 5 = .ok (.ifCond .eq 15, 3) by decide +kernel) (by decide) s0 (fun p1 => ?_) (fun p1 => ?_)
  · refine e_L (L' := [none, some (aI v1), some (aI v2)]) (st' := [aI v1]) (show decode (mC 226) 20 = .ok (.iload_n 1, 1) by decide +kernel) rfl rfl ?_
    exact e_iret (show decode (mC 226) 21 = .ok (.ireturn, 1) by decide +kernel) rfl (z1 p1)
  · refine e_L (L' := [none, some (aI (v1 + 1)), some (aI v2)]) (st' := []) (show decode (mC 226) 8 = .ok (.iinc 1 1, 3) by decide +kernel) rfl rfl ?_
    refine e_L (L' := [none, some (aI (v1 + 1)), some (aI v2)]) (st' := [aI v2]) (show decode (mC 226) 11 = .ok (.iload_n 2, 1) by decide +kernel) rfl rfl ?_
    refine e_L (L' := [none, some (aI (v1 + 1)), some (aI v2)]) (st' := [aI v2, aI v2]) (show decode (mC 226) 12 = .ok (.iload_n 2, 1) by decide +kernel) rfl rfl ?_
    refine e_P (st' := [aI 1, aI v2, aI v2]) (show decode (mC 226) 13 = .ok (.iconst 1, 1) by decide +kernel) rfl rfl rfl ?_
    refine e_P (st' := [aI (v2 - 1), aI v2]) (show decode (mC 226) 14 = .ok (.isub, 1) by decide +kernel) rfl rfl rfl ?_
    refine e_P (st' := [aI (q_and v2 (v2 - 1))]) (show decode (mC 226) 15 = .ok (.iand, 1) by decide +kernel) rfl rfl rfl ?_
    refine e_L (L' := [none, some (aI (v1 + 1)), some (aI (q_and v2 (v2 - 1)))]) (st' := []) (show decode (mC 226) 16 = .ok (.istore_n 2, 1) by decide +kernel) rfl rfl ?_
    refine e_go (t := 4) (show decode (mC 226) 17 = .ok (.goto (-13), 3) by decide +kernel) (by decide) ?_
    exact (k2 p1)
/-- SoulOfficeModel.fewest()I, from 0 -/
theorem b227_0 (hG : Shp G)
    (m0 : TM d 225 [aR 188] (G, (q_up c 188 0 0)) (fun r h' => T (d + 1) 227 9 [some (aR 188), none] (r.toList ++ []) h' Q)) :
    T (d + 1) 227 0 [some (aR 188), none] [] (G, c) Q := by
  refine e_L (L' := [some (aR 188), none]) (st' := [aR 188]) (show decode (mC 227) 0 = .ok (.aload_n 0, 1) by decide +kernel) rfl (by show (if 188 = 0 then none else some (_, _)) = _; rw [if_neg (by decide)]) ?_
  refine e_P (st' := [aI 0, aR 188]) (show decode (mC 227) 1 = .ok (.iconst 0, 1) by decide +kernel) rfl rfl rfl ?_
  refine e_putI (show decode (mC 227) 2 = .ok (.putfield 1, 3) by decide +kernel) (show pl 12 1 = some (0, 12, 0, 0) by decide +kernel) (by decide) (sh_ok hG (by decide +kernel)) ?_
  refine e_L (L' := [some (aR 188), none]) (st' := [aR 188]) (show decode (mC 227) 5 = .ok (.aload_n 0, 1) by decide +kernel) rfl (by show (if 188 = 0 then none else some (_, _)) = _; rw [if_neg (by decide)]) ?_
  exact e_V (as := [aR 188]) (rest := []) (show decode (mC 227) 6 = .ok (.invokevirtual 317, 3) by decide +kernel) (by decide +kernel) (show (decide ((1 : Nat) = mA 225) && decide (225 < q_law)) = true by decide +kernel) rfl (show (0 : Nat) ≤ 8 by decide) (show (1 : Nat) ≤ mL 225 by decide +kernel) rfl (sh_ok hG (by decide +kernel)) m0
/-- SoulOfficeModel.fewest()I, from 9 -/
theorem b227_9 (hG : Shp G) {u0 : Int}
    (m0 : TM d 226 [aI u0] (G, c) (fun r h' => T (d + 1) 227 14 [some (aR 188), some (aI u0)] (r.toList ++ []) h' Q)) :
    T (d + 1) 227 9 [some (aR 188), none] [aI u0] (G, c) Q := by
  refine e_L (L' := [some (aR 188), some (aI u0)]) (st' := []) (show decode (mC 227) 9 = .ok (.istore_n 1, 1) by decide +kernel) rfl rfl ?_
  refine e_L (L' := [some (aR 188), some (aI u0)]) (st' := [aI u0]) (show decode (mC 227) 10 = .ok (.iload_n 1, 1) by decide +kernel) rfl rfl ?_
  exact e_S (as := [aI u0]) (rest := []) (show decode (mC 227) 11 = .ok (.invokestatic 320, 3) by decide +kernel) (by decide +kernel) (show (decide ((1 : Nat) = mA 226) && decide (226 < q_law)) = true by decide +kernel) rfl (show (0 : Nat) ≤ 8 by decide) (show (1 : Nat) ≤ mL 226 by decide +kernel) m0
/-- SoulOfficeModel.fewest()I, from 14 -/
theorem b227_14 (hG : Shp G) {v1 u0 : Int} (hQ : ∀ o o' h', q_eqo o o' → Q o h' → Q o' h')
    (m0 : TM d 224 [aR 188, aI v1] (G, c) (fun r h' => T (d + 1) 227 19 [none, none] (r.toList ++ [aI u0]) h' Q)) :
    T (d + 1) 227 14 [some (aR 188), some (aI v1)] [aI u0] (G, c) Q := by
  refine e_L (L' := [some (aR 188), some (aI v1)]) (st' := [aR 188, aI u0]) (show decode (mC 227) 14 = .ok (.aload_n 0, 1) by decide +kernel) rfl (by show (if 188 = 0 then none else some (_, _)) = _; rw [if_neg (by decide)]) ?_
  refine e_L (L' := [some (aR 188), some (aI v1)]) (st' := [aI v1, aR 188, aI u0]) (show decode (mC 227) 15 = .ok (.iload_n 1, 1) by decide +kernel) rfl rfl ?_
  exact e_V (as := [aR 188, aI v1]) (rest := [aI u0]) (show decode (mC 227) 16 = .ok (.invokevirtual 323, 3) by decide +kernel) (by decide +kernel) (show (decide ((2 : Nat) = mA 224) && decide (224 < q_law)) = true by decide +kernel) rfl (show (1 : Nat) ≤ 8 by decide) (show (2 : Nat) ≤ mL 224 by decide +kernel) rfl (sh_ok hG (by decide +kernel)) (tm_le hQ (leN (leN leE)) m0)
/-- SoulOfficeModel.fewest()I, from 19 -/
theorem b227_19 (hG : Shp G) {u0 u1 : Int}
    (z0 : Q (.inl (some (aI (u0 - u1)))) (G, c)) :
    T (d + 1) 227 19 [none, none] [aI u1, aI u0] (G, c) Q := by
  refine e_P (st' := [aI (u0 - u1)]) (show decode (mC 227) 19 = .ok (.isub, 1) by decide +kernel) rfl rfl rfl ?_
  exact e_iret (show decode (mC 227) 20 = .ok (.ireturn, 1) by decide +kernel) rfl z0
/-- SoulOfficeModel.groups()I, from 0 -/
theorem b228_0 (hG : Shp G) (hQ : ∀ o o' h', q_eqo o o' → Q o h' → Q o' h')
    (m0 : TM d 225 [aR 188] (G, (q_up c 188 0 0)) (fun r h' => T (d + 1) 228 10 [none] (r.toList ++ [aR 188]) h' Q)) :
    T (d + 1) 228 0 [some (aR 188)] [] (G, c) Q := by
  refine e_L (L' := [some (aR 188)]) (st' := [aR 188]) (show decode (mC 228) 0 = .ok (.aload_n 0, 1) by decide +kernel) rfl (by show (if 188 = 0 then none else some (_, _)) = _; rw [if_neg (by decide)]) ?_
  refine e_P (st' := [aI 0, aR 188]) (show decode (mC 228) 1 = .ok (.iconst 0, 1) by decide +kernel) rfl rfl rfl ?_
  refine e_putI (show decode (mC 228) 2 = .ok (.putfield 1, 3) by decide +kernel) (show pl 12 1 = some (0, 12, 0, 0) by decide +kernel) (by decide) (sh_ok hG (by decide +kernel)) ?_
  refine e_L (L' := [some (aR 188)]) (st' := [aR 188]) (show decode (mC 228) 5 = .ok (.aload_n 0, 1) by decide +kernel) rfl (by show (if 188 = 0 then none else some (_, _)) = _; rw [if_neg (by decide)]) ?_
  refine e_L (L' := [some (aR 188)]) (st' := [aR 188, aR 188]) (show decode (mC 228) 6 = .ok (.aload_n 0, 1) by decide +kernel) rfl (by show (if 188 = 0 then none else some (_, _)) = _; rw [if_neg (by decide)]) ?_
  exact e_V (as := [aR 188]) (rest := [aR 188]) (show decode (mC 228) 7 = .ok (.invokevirtual 317, 3) by decide +kernel) (by decide +kernel) (show (decide ((1 : Nat) = mA 225) && decide (225 < q_law)) = true by decide +kernel) rfl (show (1 : Nat) ≤ 8 by decide) (show (1 : Nat) ≤ mL 225 by decide +kernel) rfl (sh_ok hG (by decide +kernel)) (tm_le hQ (leN leE) m0)
/-- SoulOfficeModel.groups()I, from 10 -/
theorem b228_10 (hG : Shp G) {u1 : Int}
    (m0 : TM d 224 [aR 188, aI u1] (G, c) (fun r h' => T (d + 1) 228 13 [none] (r.toList ++ []) h' Q)) :
    T (d + 1) 228 10 [none] [aI u1, aR 188] (G, c) Q := by
  exact e_V (as := [aR 188, aI u1]) (rest := []) (show decode (mC 228) 10 = .ok (.invokevirtual 323, 3) by decide +kernel) (by decide +kernel) (show (decide ((2 : Nat) = mA 224) && decide (224 < q_law)) = true by decide +kernel) rfl (show (0 : Nat) ≤ 8 by decide) (show (2 : Nat) ≤ mL 224 by decide +kernel) rfl (sh_ok hG (by decide +kernel)) m0
/-- SoulOfficeModel.groups()I, from 13 -/
theorem b228_13 (hG : Shp G) {u0 : Int}
    (z0 : Q (.inl (some (aI u0))) (G, c)) :
    T (d + 1) 228 13 [none] [aI u0] (G, c) Q := by
  exact e_iret (show decode (mC 228) 13 = .ok (.ireturn, 1) by decide +kernel) rfl z0
/-- SoulOfficeModel.areSo(III)Z, from 0 -/
theorem b229_0 (hG : Shp G) {v1 v2 v3 : Int}
    (k0 : T (d + 1) 229 3 [some (aR 188), some (aI v1), some (aI v2), some (aI v3), some (aI 0), none] [] (G, c) Q) :
    T (d + 1) 229 0 [some (aR 188), some (aI v1), some (aI v2), some (aI v3), none, none] [] (G, c) Q := by
  refine e_P (st' := [aI 0]) (show decode (mC 229) 0 = .ok (.iconst 0, 1) by decide +kernel) rfl rfl rfl ?_
  refine e_L (L' := [some (aR 188), some (aI v1), some (aI v2), some (aI v3), some (aI 0), none]) (st' := []) (show decode (mC 229) 1 = .ok (.istore 4, 2) by decide +kernel) rfl rfl ?_
  exact k0
/-- SoulOfficeModel.areSo(III)Z, from 3 -/
theorem b229_3 (hG : Shp G) {v1 v2 v3 v4 x1 x2 x3 x4 : Int}
    (ex1 : c 188 3 = x1)
    (s1 : -2147483648 ≤ v4 ∧ v4 < 2147483648)
    (s2 : -2147483648 ≤ x1 ∧ x1 < 2147483648)
    (z3 : (x1 ≤ v4) → Q (.inl (some (aI 1))) (G, c))
    (s4 : (v4 < x1) → 0 ≤ (3 + v1))
    (s5 : (v4 < x1) → (3 + v1) < 514)
    (ex2 : c 190 (3 + v1) = x2)
    (s7 : (v4 < x1) → -2147483648 ≤ x2 ∧ x2 < 2147483648)
    (m8 : (v4 < x1) → (x2 ≤ v4) → TM d 167 [aR 188, aI v4] (G, c) (fun r h' => T (d + 1) 229 72 [some (aR 188), some (aI v1), some (aI v2), some (aI v3), some (aI v4), some (aI 0)] (r.toList ++ []) h' Q))
    (s9 : (v4 < x1) → (v4 < x2) → -2147483648 ≤ v3 ∧ v3 < 2147483648)
    (m10 : (v4 < x1) → (v4 < x2) → (v4 < v3) → TM d 167 [aR 188, aI v4] (G, c) (fun r h' => T (d + 1) 229 72 [some (aR 188), some (aI v1), some (aI v2), some (aI v3), some (aI v4), some (aI 0)] (r.toList ++ []) h' Q))
    (s11 : (v4 < x1) → (v4 < x2) → (v3 ≤ v4) → 0 ≤ (3 + v2))
    (s12 : (v4 < x1) → (v4 < x2) → (v3 ≤ v4) → (3 + v2) < 514)
    (ex3 : c 190 (3 + v2) = x3)
    (s14 : (v4 < x1) → (v4 < x2) → (v3 ≤ v4) → -2147483648 ≤ (v3 + x3) ∧ (v3 + x3) < 2147483648)
    (m15 : (v4 < x1) → (v4 < x2) → (v3 ≤ v4) → ((v3 + x3) ≤ v4) → TM d 167 [aR 188, aI v4] (G, c) (fun r h' => T (d + 1) 229 72 [some (aR 188), some (aI v1), some (aI v2), some (aI v3), some (aI v4), some (aI 0)] (r.toList ++ []) h' Q))
    (s16 : (v4 < x1) → (v4 < x2) → (v3 ≤ v4) → (v4 < (v3 + x3)) → 0 ≤ ((15 + (6 * v1)) + v2))
    (s17 : (v4 < x1) → (v4 < x2) → (v3 ≤ v4) → (v4 < (v3 + x3)) → ((15 + (6 * v1)) + v2) < 514)
    (ex4 : c 190 ((15 + (6 * v1)) + v2) = x4)
    (m19 : (v4 < x1) → (v4 < x2) → (v3 ≤ v4) → (v4 < (v3 + x3)) → TM d 167 [aR 188, aI v4] (G, c) (fun r h' => T (d + 1) 229 72 [some (aR 188), some (aI v1), some (aI v2), some (aI v3), some (aI v4), some (aI x4)] (r.toList ++ []) h' Q)) :
    T (d + 1) 229 3 [some (aR 188), some (aI v1), some (aI v2), some (aI v3), some (aI v4), none] [] (G, c) Q := by
  refine e_L (L' := [some (aR 188), some (aI v1), some (aI v2), some (aI v3), some (aI v4), none]) (st' := [aI v4]) (show decode (mC 229) 3 = .ok (.iload 4, 2) by decide +kernel) rfl rfl ?_
  refine e_L (L' := [some (aR 188), some (aI v1), some (aI v2), some (aI v3), some (aI v4), none]) (st' := [aR 188, aI v4]) (show decode (mC 229) 5 = .ok (.aload_n 0, 1) by decide +kernel) rfl (by show (if 188 = 0 then none else some (_, _)) = _; rw [if_neg (by decide)]) ?_
  refine e_getIx (show decode (mC 229) 6 = .ok (.getfield 18, 3) by decide +kernel) (show pl 12 18 = some (0, 12, 3, 0) by decide +kernel) (by decide) (sh_ok hG (by decide +kernel)) ex1 ?_
  refine e_ge2 (t := 85) (show decode (mC 229) 9 = .ok (.if_icmp .ge 76, 3) by decide +kernel) (by decide) s1 s2 (fun p1 => ?_) (fun p1 => ?_)
  · refine e_P (st' := [aI 1]) (show decode (mC 229) 85 = .ok (.iconst 1, 1) by decide +kernel) rfl rfl rfl ?_
    exact e_zret (show decode (mC 229) 86 = .ok (.ireturn, 1) by decide +kernel) rfl (by decide) (z3 p1)
  · refine e_L (L' := [some (aR 188), some (aI v1), some (aI v2), some (aI v3), some (aI v4), none]) (st' := [aI v4]) (show decode (mC 229) 12 = .ok (.iload 4, 2) by decide +kernel) rfl rfl ?_
    refine e_L (L' := [some (aR 188), some (aI v1), some (aI v2), some (aI v3), some (aI v4), none]) (st' := [aR 188, aI v4]) (show decode (mC 229) 14 = .ok (.aload_n 0, 1) by decide +kernel) rfl (by show (if 188 = 0 then none else some (_, _)) = _; rw [if_neg (by decide)]) ?_
    refine e_getR (w := 190) (show decode (mC 229) 15 = .ok (.getfield 33, 3) by decide +kernel) (show pl 12 33 = some (0, 12, 6, 0) by decide +kernel) (by decide) (sh_ok hG (by decide +kernel)) (sh_rf hG (by decide +kernel)) ?_
    refine e_P (st' := [aI 3, aR 190, aI v4]) (show decode (mC 229) 18 = .ok (.iconst 3, 1) by decide +kernel) rfl rfl rfl ?_
    refine e_L (L' := [some (aR 188), some (aI v1), some (aI v2), some (aI v3), some (aI v4), none]) (st' := [aI v1, aI 3, aR 190, aI v4]) (show decode (mC 229) 19 = .ok (.iload_n 1, 1) by decide +kernel) rfl rfl ?_
    refine e_P (st' := [aI (3 + v1), aR 190, aI v4]) (show decode (mC 229) 20 = .ok (.iadd, 1) by decide +kernel) rfl rfl rfl ?_
    refine e_ialdx (n := 514) (show decode (mC 229) 21 = .ok (.iaload, 1) by decide +kernel) (sh_ok hG (by decide +kernel)) (sh_ln hG (by decide +kernel)) (by decide) (s4 p1) (s5 p1) ex2 ?_
    refine e_ge2 (t := 63) (show decode (mC 229) 22 = .ok (.if_icmp .ge 41, 3) by decide +kernel) (by decide) s1 (s7 p1) (fun p2 => ?_) (fun p2 => ?_)
    · refine e_P (st' := [aI 0]) (show decode (mC 229) 63 = .ok (.iconst 0, 1) by decide +kernel) rfl rfl rfl ?_
      refine e_L (L' := [some (aR 188), some (aI v1), some (aI v2), some (aI v3), some (aI v4), some (aI 0)]) (st' := []) (show decode (mC 229) 64 = .ok (.istore 5, 2) by decide +kernel) rfl rfl ?_
      refine e_L (L' := [some (aR 188), some (aI v1), some (aI v2), some (aI v3), some (aI v4), some (aI 0)]) (st' := [aR 188]) (show decode (mC 229) 66 = .ok (.aload_n 0, 1) by decide +kernel) rfl (by show (if 188 = 0 then none else some (_, _)) = _; rw [if_neg (by decide)]) ?_
      refine e_L (L' := [some (aR 188), some (aI v1), some (aI v2), some (aI v3), some (aI v4), some (aI 0)]) (st' := [aI v4, aR 188]) (show decode (mC 229) 67 = .ok (.iload 4, 2) by decide +kernel) rfl rfl ?_
      exact e_V (as := [aR 188, aI v4]) (rest := []) (show decode (mC 229) 69 = .ok (.invokevirtual 326, 3) by decide +kernel) (by decide +kernel) (show (decide ((2 : Nat) = mA 167) && decide (167 < q_law)) = true by decide +kernel) rfl (show (0 : Nat) ≤ 8 by decide) (show (2 : Nat) ≤ mL 167 by decide +kernel) rfl (sh_ok hG (by decide +kernel)) (m8 p1 p2)
    · refine e_L (L' := [some (aR 188), some (aI v1), some (aI v2), some (aI v3), some (aI v4), none]) (st' := [aI v4]) (show decode (mC 229) 25 = .ok (.iload 4, 2) by decide +kernel) rfl rfl ?_
      refine e_L (L' := [some (aR 188), some (aI v1), some (aI v2), some (aI v3), some (aI v4), none]) (st' := [aI v3, aI v4]) (show decode (mC 229) 27 = .ok (.iload_n 3, 1) by decide +kernel) rfl rfl ?_
      refine e_lt2 (t := 63) (show decode (mC 229) 28 = .ok (.if_icmp .lt 35, 3) by decide +kernel) (by decide) s1 (s9 p1 p2) (fun p3 => ?_) (fun p3 => ?_)
      · refine e_P (st' := [aI 0]) (show decode (mC 229) 63 = .ok (.iconst 0, 1) by decide +kernel) rfl rfl rfl ?_
        refine e_L (L' := [some (aR 188), some (aI v1), some (aI v2), some (aI v3), some (aI v4), some (aI 0)]) (st' := []) (show decode (mC 229) 64 = .ok (.istore 5, 2) by decide +kernel) rfl rfl ?_
        refine e_L (L' := [some (aR 188), some (aI v1), some (aI v2), some (aI v3), some (aI v4), some (aI 0)]) (st' := [aR 188]) (show decode (mC 229) 66 = .ok (.aload_n 0, 1) by decide +kernel) rfl (by show (if 188 = 0 then none else some (_, _)) = _; rw [if_neg (by decide)]) ?_
        refine e_L (L' := [some (aR 188), some (aI v1), some (aI v2), some (aI v3), some (aI v4), some (aI 0)]) (st' := [aI v4, aR 188]) (show decode (mC 229) 67 = .ok (.iload 4, 2) by decide +kernel) rfl rfl ?_
        exact e_V (as := [aR 188, aI v4]) (rest := []) (show decode (mC 229) 69 = .ok (.invokevirtual 326, 3) by decide +kernel) (by decide +kernel) (show (decide ((2 : Nat) = mA 167) && decide (167 < q_law)) = true by decide +kernel) rfl (show (0 : Nat) ≤ 8 by decide) (show (2 : Nat) ≤ mL 167 by decide +kernel) rfl (sh_ok hG (by decide +kernel)) (m10 p1 p2 p3)
      · refine e_L (L' := [some (aR 188), some (aI v1), some (aI v2), some (aI v3), some (aI v4), none]) (st' := [aI v4]) (show decode (mC 229) 31 = .ok (.iload 4, 2) by decide +kernel) rfl rfl ?_
        refine e_L (L' := [some (aR 188), some (aI v1), some (aI v2), some (aI v3), some (aI v4), none]) (st' := [aI v3, aI v4]) (show decode (mC 229) 33 = .ok (.iload_n 3, 1) by decide +kernel) rfl rfl ?_
        refine e_L (L' := [some (aR 188), some (aI v1), some (aI v2), some (aI v3), some (aI v4), none]) (st' := [aR 188, aI v3, aI v4]) (show decode (mC 229) 34 = .ok (.aload_n 0, 1) by decide +kernel) rfl (by show (if 188 = 0 then none else some (_, _)) = _; rw [if_neg (by decide)]) ?_
        refine e_getR (w := 190) (show decode (mC 229) 35 = .ok (.getfield 33, 3) by decide +kernel) (show pl 12 33 = some (0, 12, 6, 0) by decide +kernel) (by decide) (sh_ok hG (by decide +kernel)) (sh_rf hG (by decide +kernel)) ?_
        refine e_P (st' := [aI 3, aR 190, aI v3, aI v4]) (show decode (mC 229) 38 = .ok (.iconst 3, 1) by decide +kernel) rfl rfl rfl ?_
        refine e_L (L' := [some (aR 188), some (aI v1), some (aI v2), some (aI v3), some (aI v4), none]) (st' := [aI v2, aI 3, aR 190, aI v3, aI v4]) (show decode (mC 229) 39 = .ok (.iload_n 2, 1) by decide +kernel) rfl rfl ?_
        refine e_P (st' := [aI (3 + v2), aR 190, aI v3, aI v4]) (show decode (mC 229) 40 = .ok (.iadd, 1) by decide +kernel) rfl rfl rfl ?_
        refine e_ialdx (n := 514) (show decode (mC 229) 41 = .ok (.iaload, 1) by decide +kernel) (sh_ok hG (by decide +kernel)) (sh_ln hG (by decide +kernel)) (by decide) (s11 p1 p2 p3) (s12 p1 p2 p3) ex3 ?_
        refine e_P (st' := [aI (v3 + x3), aI v4]) (show decode (mC 229) 42 = .ok (.iadd, 1) by decide +kernel) rfl rfl rfl ?_
        refine e_ge2 (t := 63) (show decode (mC 229) 43 = .ok (.if_icmp .ge 20, 3) by decide +kernel) (by decide) s1 (s14 p1 p2 p3) (fun p4 => ?_) (fun p4 => ?_)
        · refine e_P (st' := [aI 0]) (show decode (mC 229) 63 = .ok (.iconst 0, 1) by decide +kernel) rfl rfl rfl ?_
          refine e_L (L' := [some (aR 188), some (aI v1), some (aI v2), some (aI v3), some (aI v4), some (aI 0)]) (st' := []) (show decode (mC 229) 64 = .ok (.istore 5, 2) by decide +kernel) rfl rfl ?_
          refine e_L (L' := [some (aR 188), some (aI v1), some (aI v2), some (aI v3), some (aI v4), some (aI 0)]) (st' := [aR 188]) (show decode (mC 229) 66 = .ok (.aload_n 0, 1) by decide +kernel) rfl (by show (if 188 = 0 then none else some (_, _)) = _; rw [if_neg (by decide)]) ?_
          refine e_L (L' := [some (aR 188), some (aI v1), some (aI v2), some (aI v3), some (aI v4), some (aI 0)]) (st' := [aI v4, aR 188]) (show decode (mC 229) 67 = .ok (.iload 4, 2) by decide +kernel) rfl rfl ?_
          exact e_V (as := [aR 188, aI v4]) (rest := []) (show decode (mC 229) 69 = .ok (.invokevirtual 326, 3) by decide +kernel) (by decide +kernel) (show (decide ((2 : Nat) = mA 167) && decide (167 < q_law)) = true by decide +kernel) rfl (show (0 : Nat) ≤ 8 by decide) (show (2 : Nat) ≤ mL 167 by decide +kernel) rfl (sh_ok hG (by decide +kernel)) (m15 p1 p2 p3 p4)
        · refine e_L (L' := [some (aR 188), some (aI v1), some (aI v2), some (aI v3), some (aI v4), none]) (st' := [aR 188]) (show decode (mC 229) 46 = .ok (.aload_n 0, 1) by decide +kernel) rfl (by show (if 188 = 0 then none else some (_, _)) = _; rw [if_neg (by decide)]) ?_
          refine e_getR (w := 190) (show decode (mC 229) 47 = .ok (.getfield 33, 3) by decide +kernel) (show pl 12 33 = some (0, 12, 6, 0) by decide +kernel) (by decide) (sh_ok hG (by decide +kernel)) (sh_rf hG (by decide +kernel)) ?_
          refine e_P (st' := [aI 15, aR 190]) (show decode (mC 229) 50 = .ok (.bipush 15, 2) by decide +kernel) rfl rfl rfl ?_
          refine e_P (st' := [aI 6, aI 15, aR 190]) (show decode (mC 229) 52 = .ok (.bipush 6, 2) by decide +kernel) rfl rfl rfl ?_
          refine e_L (L' := [some (aR 188), some (aI v1), some (aI v2), some (aI v3), some (aI v4), none]) (st' := [aI v1, aI 6, aI 15, aR 190]) (show decode (mC 229) 54 = .ok (.iload_n 1, 1) by decide +kernel) rfl rfl ?_
          refine e_P (st' := [aI (6 * v1), aI 15, aR 190]) (show decode (mC 229) 55 = .ok (.imul, 1) by decide +kernel) rfl rfl rfl ?_
          refine e_P (st' := [aI (15 + (6 * v1)), aR 190]) (show decode (mC 229) 56 = .ok (.iadd, 1) by decide +kernel) rfl rfl rfl ?_
          refine e_L (L' := [some (aR 188), some (aI v1), some (aI v2), some (aI v3), some (aI v4), none]) (st' := [aI v2, aI (15 + (6 * v1)), aR 190]) (show decode (mC 229) 57 = .ok (.iload_n 2, 1) by decide +kernel) rfl rfl ?_
          refine e_P (st' := [aI ((15 + (6 * v1)) + v2), aR 190]) (show decode (mC 229) 58 = .ok (.iadd, 1) by decide +kernel) rfl rfl rfl ?_
          refine e_ialdx (n := 514) (show decode (mC 229) 59 = .ok (.iaload, 1) by decide +kernel) (sh_ok hG (by decide +kernel)) (sh_ln hG (by decide +kernel)) (by decide) (s16 p1 p2 p3 p4) (s17 p1 p2 p3 p4) ex4 ?_
          refine e_go (t := 64) (show decode (mC 229) 60 = .ok (.goto 4, 3) by decide +kernel) (by decide) ?_
          refine e_L (L' := [some (aR 188), some (aI v1), some (aI v2), some (aI v3), some (aI v4), some (aI x4)]) (st' := []) (show decode (mC 229) 64 = .ok (.istore 5, 2) by decide +kernel) rfl rfl ?_
          refine e_L (L' := [some (aR 188), some (aI v1), some (aI v2), some (aI v3), some (aI v4), some (aI x4)]) (st' := [aR 188]) (show decode (mC 229) 66 = .ok (.aload_n 0, 1) by decide +kernel) rfl (by show (if 188 = 0 then none else some (_, _)) = _; rw [if_neg (by decide)]) ?_
          refine e_L (L' := [some (aR 188), some (aI v1), some (aI v2), some (aI v3), some (aI v4), some (aI x4)]) (st' := [aI v4, aR 188]) (show decode (mC 229) 67 = .ok (.iload 4, 2) by decide +kernel) rfl rfl ?_
          exact e_V (as := [aR 188, aI v4]) (rest := []) (show decode (mC 229) 69 = .ok (.invokevirtual 326, 3) by decide +kernel) (by decide +kernel) (show (decide ((2 : Nat) = mA 167) && decide (167 < q_law)) = true by decide +kernel) rfl (show (0 : Nat) ≤ 8 by decide) (show (2 : Nat) ≤ mL 167 by decide +kernel) rfl (sh_ok hG (by decide +kernel)) (m19 p1 p2 p3 p4)
/-- SoulOfficeModel.areSo(III)Z, from 72 -/
theorem b229_72 (hG : Shp G) {v1 v2 v3 v4 v5 u0 : Int} (hQ : ∀ o o' h', q_eqo o o' → Q o h' → Q o' h')
    (s0 : -2147483648 ≤ u0 ∧ u0 < 2147483648)
    (s1 : -2147483648 ≤ v5 ∧ v5 < 2147483648)
    (k2 : (u0 = v5) → T (d + 1) 229 3 [some (aR 188), some (aI v1), some (aI v2), some (aI v3), some (aI (v4 + 1)), none] [] (G, c) Q)
    (z3 : (¬ u0 = v5) → Q (.inl (some (aI 0))) (G, c)) :
    T (d + 1) 229 72 [some (aR 188), some (aI v1), some (aI v2), some (aI v3), some (aI v4), some (aI v5)] [aI u0] (G, c) Q := by
  refine e_L (L' := [some (aR 188), some (aI v1), some (aI v2), some (aI v3), some (aI v4), some (aI v5)]) (st' := [aI v5, aI u0]) (show decode (mC 229) 72 = .ok (.iload 5, 2) by decide +kernel) rfl rfl ?_
  refine e_eq2 (t := 79) (show decode (mC 229) 74 = .ok (.if_icmp .eq 5, 3) by decide +kernel) (by decide) s0 s1 (fun p1 => ?_) (fun p1 => ?_)
  · refine e_L (L' := [some (aR 188), some (aI v1), some (aI v2), some (aI v3), some (aI (v4 + 1)), some (aI v5)]) (st' := []) (show decode (mC 229) 79 = .ok (.iinc 4 1, 3) by decide +kernel) rfl rfl ?_
    refine e_go (t := 3) (show decode (mC 229) 82 = .ok (.goto (-79), 3) by decide +kernel) (by decide) ?_
    exact T_le hQ (leS (leS (leS (leS (leS (leN leE)))))) (k2 p1)
  · refine e_P (st' := [aI 0]) (show decode (mC 229) 77 = .ok (.iconst 0, 1) by decide +kernel) rfl rfl rfl ?_
    exact e_zret (show decode (mC 229) 78 = .ok (.ireturn, 1) by decide +kernel) rfl (by decide) (z3 p1)
/-- SoulOfficeModel.were(II)I, from 0 -/
theorem b230_0 (hG : Shp G) {v1 v2 : Int}
    (m0 : TM d 163 [aR 188, aI 940] (G, (q_up c 188 0 0)) (fun r h' => T (d + 1) 230 12 [some (aR 188), some (aI v1), some (aI v2), none, none, none, none] (r.toList ++ []) h' Q)) :
    T (d + 1) 230 0 [some (aR 188), some (aI v1), some (aI v2), none, none, none, none] [] (G, c) Q := by
  refine e_L (L' := [some (aR 188), some (aI v1), some (aI v2), none, none, none, none]) (st' := [aR 188]) (show decode (mC 230) 0 = .ok (.aload_n 0, 1) by decide +kernel) rfl (by show (if 188 = 0 then none else some (_, _)) = _; rw [if_neg (by decide)]) ?_
  refine e_P (st' := [aI 0, aR 188]) (show decode (mC 230) 1 = .ok (.iconst 0, 1) by decide +kernel) rfl rfl rfl ?_
  refine e_putI (show decode (mC 230) 2 = .ok (.putfield 1, 3) by decide +kernel) (show pl 12 1 = some (0, 12, 0, 0) by decide +kernel) (by decide) (sh_ok hG (by decide +kernel)) ?_
  refine e_L (L' := [some (aR 188), some (aI v1), some (aI v2), none, none, none, none]) (st' := [aR 188]) (show decode (mC 230) 5 = .ok (.aload_n 0, 1) by decide +kernel) rfl (by show (if 188 = 0 then none else some (_, _)) = _; rw [if_neg (by decide)]) ?_
  refine e_P (st' := [aI 940, aR 188]) (show decode (mC 230) 6 = .ok (.sipush 940, 3) by decide +kernel) rfl rfl rfl ?_
  exact e_V (as := [aR 188, aI 940]) (rest := []) (show decode (mC 230) 9 = .ok (.invokevirtual 226, 3) by decide +kernel) (by decide +kernel) (show (decide ((2 : Nat) = mA 163) && decide (163 < q_law)) = true by decide +kernel) rfl (show (0 : Nat) ≤ 8 by decide) (show (2 : Nat) ≤ mL 163 by decide +kernel) rfl (sh_ok hG (by decide +kernel)) m0
/-- SoulOfficeModel.were(II)I, from 12 -/
theorem b230_12 (hG : Shp G) {v1 v2 : Int}
    (m0 : TM d 188 [aR 188, aI v1] (G, c) (fun r h' => T (d + 1) 230 17 [some (aR 188), some (aI v1), some (aI v2), none, none, none, none] (r.toList ++ []) h' Q)) :
    T (d + 1) 230 12 [some (aR 188), some (aI v1), some (aI v2), none, none, none, none] [] (G, c) Q := by
  refine e_L (L' := [some (aR 188), some (aI v1), some (aI v2), none, none, none, none]) (st' := [aR 188]) (show decode (mC 230) 12 = .ok (.aload_n 0, 1) by decide +kernel) rfl (by show (if 188 = 0 then none else some (_, _)) = _; rw [if_neg (by decide)]) ?_
  refine e_L (L' := [some (aR 188), some (aI v1), some (aI v2), none, none, none, none]) (st' := [aI v1, aR 188]) (show decode (mC 230) 13 = .ok (.iload_n 1, 1) by decide +kernel) rfl rfl ?_
  exact e_V (as := [aR 188, aI v1]) (rest := []) (show decode (mC 230) 14 = .ok (.invokevirtual 248, 3) by decide +kernel) (by decide +kernel) (show (decide ((2 : Nat) = mA 188) && decide (188 < q_law)) = true by decide +kernel) rfl (show (0 : Nat) ≤ 8 by decide) (show (2 : Nat) ≤ mL 188 by decide +kernel) rfl (sh_ok hG (by decide +kernel)) m0
/-- SoulOfficeModel.were(II)I, from 17 -/
theorem b230_17 (hG : Shp G) {v1 v2 u0 : Int}
    (s0 : -2147483648 ≤ u0 ∧ u0 < 2147483648)
    (z1 : (u0 = 0) → Q (.inl (some (aI (-1)))) (G, c))
    (m2 : (¬ u0 = 0) → TM d 188 [aR 188, aI v2] (G, c) (fun r h' => T (d + 1) 230 25 [some (aR 188), some (aI v1), some (aI v2), none, none, none, none] (r.toList ++ []) h' Q)) :
    T (d + 1) 230 17 [some (aR 188), some (aI v1), some (aI v2), none, none, none, none] [aI u0] (G, c) Q := by
  refine e_eq1 (t := 46) (show decode (mC 230) 17 = .ok (.ifCond .eq 29, 3) by decide +kernel) (by decide) s0 (fun p1 => ?_) (fun p1 => ?_)
  · refine e_P (st' := [aI (-1)]) (show decode (mC 230) 46 = .ok (.iconst (-1), 1) by decide +kernel) rfl rfl rfl ?_
    exact e_iret (show decode (mC 230) 47 = .ok (.ireturn, 1) by decide +kernel) rfl (z1 p1)
  · refine e_L (L' := [some (aR 188), some (aI v1), some (aI v2), none, none, none, none]) (st' := [aR 188]) (show decode (mC 230) 20 = .ok (.aload_n 0, 1) by decide +kernel) rfl (by show (if 188 = 0 then none else some (_, _)) = _; rw [if_neg (by decide)]) ?_
    refine e_L (L' := [some (aR 188), some (aI v1), some (aI v2), none, none, none, none]) (st' := [aI v2, aR 188]) (show decode (mC 230) 21 = .ok (.iload_n 2, 1) by decide +kernel) rfl rfl ?_
    exact e_V (as := [aR 188, aI v2]) (rest := []) (show decode (mC 230) 22 = .ok (.invokevirtual 248, 3) by decide +kernel) (by decide +kernel) (show (decide ((2 : Nat) = mA 188) && decide (188 < q_law)) = true by decide +kernel) rfl (show (0 : Nat) ≤ 8 by decide) (show (2 : Nat) ≤ mL 188 by decide +kernel) rfl (sh_ok hG (by decide +kernel)) (m2 p1)
/-- SoulOfficeModel.were(II)I, from 25 -/
theorem b230_25 (hG : Shp G) {v1 v2 u0 x1 : Int}
    (s0 : -2147483648 ≤ u0 ∧ u0 < 2147483648)
    (z1 : (u0 = 0) → Q (.inl (some (aI (-1)))) (G, c))
    (s2 : (¬ u0 = 0) → -2147483648 ≤ v1 ∧ v1 < 2147483648)
    (s3 : (¬ u0 = 0) → -2147483648 ≤ v2 ∧ v2 < 2147483648)
    (z4 : (¬ u0 = 0) → (v1 = v2) → Q (.inl (some (aI (-1)))) (G, c))
    (ex1 : c 188 3 = x1)
    (m6 : (¬ u0 = 0) → (¬ v1 = v2) → TM d 164 [aI x1, aI 1, aI 30] (G, c) (fun r h' => T (d + 1) 230 43 [some (aR 188), some (aI v1), some (aI v2), none, none, none, none] (r.toList ++ []) h' Q)) :
    T (d + 1) 230 25 [some (aR 188), some (aI v1), some (aI v2), none, none, none, none] [aI u0] (G, c) Q := by
  refine e_eq1 (t := 46) (show decode (mC 230) 25 = .ok (.ifCond .eq 21, 3) by decide +kernel) (by decide) s0 (fun p1 => ?_) (fun p1 => ?_)
  · refine e_P (st' := [aI (-1)]) (show decode (mC 230) 46 = .ok (.iconst (-1), 1) by decide +kernel) rfl rfl rfl ?_
    exact e_iret (show decode (mC 230) 47 = .ok (.ireturn, 1) by decide +kernel) rfl (z1 p1)
  · refine e_L (L' := [some (aR 188), some (aI v1), some (aI v2), none, none, none, none]) (st' := [aI v1]) (show decode (mC 230) 28 = .ok (.iload_n 1, 1) by decide +kernel) rfl rfl ?_
    refine e_L (L' := [some (aR 188), some (aI v1), some (aI v2), none, none, none, none]) (st' := [aI v2, aI v1]) (show decode (mC 230) 29 = .ok (.iload_n 2, 1) by decide +kernel) rfl rfl ?_
    refine e_eq2 (t := 46) (show decode (mC 230) 30 = .ok (.if_icmp .eq 16, 3) by decide +kernel) (by decide) (s2 p1) (s3 p1) (fun p2 => ?_) (fun p2 => ?_)
    · refine e_P (st' := [aI (-1)]) (show decode (mC 230) 46 = .ok (.iconst (-1), 1) by decide +kernel) rfl rfl rfl ?_
      exact e_iret (show decode (mC 230) 47 = .ok (.ireturn, 1) by decide +kernel) rfl (z4 p1 p2)
    · refine e_L (L' := [some (aR 188), some (aI v1), some (aI v2), none, none, none, none]) (st' := [aR 188]) (show decode (mC 230) 33 = .ok (.aload_n 0, 1) by decide +kernel) rfl (by show (if 188 = 0 then none else some (_, _)) = _; rw [if_neg (by decide)]) ?_
      refine e_getIx (show decode (mC 230) 34 = .ok (.getfield 18, 3) by decide +kernel) (show pl 12 18 = some (0, 12, 3, 0) by decide +kernel) (by decide) (sh_ok hG (by decide +kernel)) ex1 ?_
      refine e_P (st' := [aI 1, aI x1]) (show decode (mC 230) 37 = .ok (.iconst 1, 1) by decide +kernel) rfl rfl rfl ?_
      refine e_P (st' := [aI 30, aI 1, aI x1]) (show decode (mC 230) 38 = .ok (.bipush 30, 2) by decide +kernel) rfl rfl rfl ?_
      exact e_S (as := [aI x1, aI 1, aI 30]) (rest := []) (show decode (mC 230) 40 = .ok (.invokestatic 184, 3) by decide +kernel) (by decide +kernel) (show (decide ((3 : Nat) = mA 164) && decide (164 < q_law)) = true by decide +kernel) rfl (show (0 : Nat) ≤ 8 by decide) (show (3 : Nat) ≤ mL 164 by decide +kernel) (m6 p1 p2)
/-- SoulOfficeModel.were(II)I, from 43 -/
theorem b230_43 (hG : Shp G) {v1 v2 u0 : Int}
    (s0 : -2147483648 ≤ u0 ∧ u0 < 2147483648)
    (k1 : (¬ u0 = 0) → T (d + 1) 230 53 [some (aR 188), some (aI v1), some (aI v2), some (aI 0), some (aI 0), none, none] [] (G, c) Q)
    (z2 : (u0 = 0) → Q (.inl (some (aI (-1)))) (G, c)) :
    T (d + 1) 230 43 [some (aR 188), some (aI v1), some (aI v2), none, none, none, none] [aI u0] (G, c) Q := by
  refine e_ne1 (t := 48) (show decode (mC 230) 43 = .ok (.ifCond .ne 5, 3) by decide +kernel) (by decide) s0 (fun p1 => ?_) (fun p1 => ?_)
  · refine e_P (st' := [aI 0]) (show decode (mC 230) 48 = .ok (.iconst 0, 1) by decide +kernel) rfl rfl rfl ?_
    refine e_L (L' := [some (aR 188), some (aI v1), some (aI v2), some (aI 0), none, none, none]) (st' := []) (show decode (mC 230) 49 = .ok (.istore_n 3, 1) by decide +kernel) rfl rfl ?_
    refine e_P (st' := [aI 0]) (show decode (mC 230) 50 = .ok (.iconst 0, 1) by decide +kernel) rfl rfl rfl ?_
    refine e_L (L' := [some (aR 188), some (aI v1), some (aI v2), some (aI 0), some (aI 0), none, none]) (st' := []) (show decode (mC 230) 51 = .ok (.istore 4, 2) by decide +kernel) rfl rfl ?_
    exact (k1 p1)
  · refine e_P (st' := [aI (-1)]) (show decode (mC 230) 46 = .ok (.iconst (-1), 1) by decide +kernel) rfl rfl rfl ?_
    exact e_iret (show decode (mC 230) 47 = .ok (.ireturn, 1) by decide +kernel) rfl (z2 p1)
/-- SoulOfficeModel.were(II)I, from 53 -/
theorem b230_53 (hG : Shp G) {v1 v2 v3 v4 x1 : Int}
    (ex1 : c 190 0 = x1)
    (s1 : -2147483648 ≤ v4 ∧ v4 < 2147483648)
    (s2 : -2147483648 ≤ x1 ∧ x1 < 2147483648)
    (z3 : (x1 ≤ v4) → Q (.inl (some (aI v3))) (G, c))
    (k4 : (v4 < x1) → T (d + 1) 230 67 [some (aR 188), some (aI v1), some (aI v2), some (aI v3), some (aI v4), some (aI 0), none] [] (G, c) Q) :
    T (d + 1) 230 53 [some (aR 188), some (aI v1), some (aI v2), some (aI v3), some (aI v4), none, none] [] (G, c) Q := by
  refine e_L (L' := [some (aR 188), some (aI v1), some (aI v2), some (aI v3), some (aI v4), none, none]) (st' := [aI v4]) (show decode (mC 230) 53 = .ok (.iload 4, 2) by decide +kernel) rfl rfl ?_
  refine e_L (L' := [some (aR 188), some (aI v1), some (aI v2), some (aI v3), some (aI v4), none, none]) (st' := [aR 188, aI v4]) (show decode (mC 230) 55 = .ok (.aload_n 0, 1) by decide +kernel) rfl (by show (if 188 = 0 then none else some (_, _)) = _; rw [if_neg (by decide)]) ?_
  refine e_getR (w := 190) (show decode (mC 230) 56 = .ok (.getfield 33, 3) by decide +kernel) (show pl 12 33 = some (0, 12, 6, 0) by decide +kernel) (by decide) (sh_ok hG (by decide +kernel)) (sh_rf hG (by decide +kernel)) ?_
  refine e_P (st' := [aI 0, aR 190, aI v4]) (show decode (mC 230) 59 = .ok (.iconst 0, 1) by decide +kernel) rfl rfl rfl ?_
  refine e_ialdx (n := 514) (show decode (mC 230) 60 = .ok (.iaload, 1) by decide +kernel) (sh_ok hG (by decide +kernel)) (sh_ln hG (by decide +kernel)) (by decide) (by decide) (by decide) ex1 ?_
  refine e_ge2 (t := 196) (show decode (mC 230) 61 = .ok (.if_icmp .ge 135, 3) by decide +kernel) (by decide) s1 s2 (fun p1 => ?_) (fun p1 => ?_)
  · refine e_L (L' := [some (aR 188), some (aI v1), some (aI v2), some (aI v3), some (aI v4), none, none]) (st' := [aI v3]) (show decode (mC 230) 196 = .ok (.iload_n 3, 1) by decide +kernel) rfl rfl ?_
    exact e_iret (show decode (mC 230) 197 = .ok (.ireturn, 1) by decide +kernel) rfl (z3 p1)
  · refine e_P (st' := [aI 0]) (show decode (mC 230) 64 = .ok (.iconst 0, 1) by decide +kernel) rfl rfl rfl ?_
    refine e_L (L' := [some (aR 188), some (aI v1), some (aI v2), some (aI v3), some (aI v4), some (aI 0), none]) (st' := []) (show decode (mC 230) 65 = .ok (.istore 5, 2) by decide +kernel) rfl rfl ?_
    exact (k4 p1)
/-- SoulOfficeModel.were(II)I, from 67 -/
theorem b230_67 (hG : Shp G) {v1 v2 v3 v4 v5 x1 : Int} (hQ : ∀ o o' h', q_eqo o o' → Q o h' → Q o' h')
    (ex1 : c 190 0 = x1)
    (s1 : -2147483648 ≤ v5 ∧ v5 < 2147483648)
    (s2 : -2147483648 ≤ x1 ∧ x1 < 2147483648)
    (k3 : (x1 ≤ v5) → T (d + 1) 230 53 [some (aR 188), some (aI v1), some (aI v2), some (aI v3), some (aI (v4 + 1)), none, none] [] (G, c) Q)
    (k4 : (v5 < x1) → T (d + 1) 230 81 [some (aR 188), some (aI v1), some (aI v2), some (aI v3), some (aI v4), some (aI v5), some (aI 0)] [] (G, c) Q) :
    T (d + 1) 230 67 [some (aR 188), some (aI v1), some (aI v2), some (aI v3), some (aI v4), some (aI v5), none] [] (G, c) Q := by
  refine e_L (L' := [some (aR 188), some (aI v1), some (aI v2), some (aI v3), some (aI v4), some (aI v5), none]) (st' := [aI v5]) (show decode (mC 230) 67 = .ok (.iload 5, 2) by decide +kernel) rfl rfl ?_
  refine e_L (L' := [some (aR 188), some (aI v1), some (aI v2), some (aI v3), some (aI v4), some (aI v5), none]) (st' := [aR 188, aI v5]) (show decode (mC 230) 69 = .ok (.aload_n 0, 1) by decide +kernel) rfl (by show (if 188 = 0 then none else some (_, _)) = _; rw [if_neg (by decide)]) ?_
  refine e_getR (w := 190) (show decode (mC 230) 70 = .ok (.getfield 33, 3) by decide +kernel) (show pl 12 33 = some (0, 12, 6, 0) by decide +kernel) (by decide) (sh_ok hG (by decide +kernel)) (sh_rf hG (by decide +kernel)) ?_
  refine e_P (st' := [aI 0, aR 190, aI v5]) (show decode (mC 230) 73 = .ok (.iconst 0, 1) by decide +kernel) rfl rfl rfl ?_
  refine e_ialdx (n := 514) (show decode (mC 230) 74 = .ok (.iaload, 1) by decide +kernel) (sh_ok hG (by decide +kernel)) (sh_ln hG (by decide +kernel)) (by decide) (by decide) (by decide) ex1 ?_
  refine e_ge2 (t := 190) (show decode (mC 230) 75 = .ok (.if_icmp .ge 115, 3) by decide +kernel) (by decide) s1 s2 (fun p1 => ?_) (fun p1 => ?_)
  · refine e_L (L' := [some (aR 188), some (aI v1), some (aI v2), some (aI v3), some (aI (v4 + 1)), some (aI v5), none]) (st' := []) (show decode (mC 230) 190 = .ok (.iinc 4 1, 3) by decide +kernel) rfl rfl ?_
    refine e_go (t := 53) (show decode (mC 230) 193 = .ok (.goto (-140), 3) by decide +kernel) (by decide) ?_
    exact T_le hQ (leS (leS (leS (leS (leS (leN (leS leE))))))) (k3 p1)
  · refine e_P (st' := [aI 0]) (show decode (mC 230) 78 = .ok (.iconst 0, 1) by decide +kernel) rfl rfl rfl ?_
    refine e_L (L' := [some (aR 188), some (aI v1), some (aI v2), some (aI v3), some (aI v4), some (aI v5), some (aI 0)]) (st' := []) (show decode (mC 230) 79 = .ok (.istore 6, 2) by decide +kernel) rfl rfl ?_
    exact (k4 p1)
/-- SoulOfficeModel.were(II)I, from 81 -/
theorem b230_81 (hG : Shp G) {v1 v2 v3 v4 v5 v6 x1 : Int} (hQ : ∀ o o' h', q_eqo o o' → Q o h' → Q o' h')
    (s0 : -2147483648 ≤ v6 ∧ v6 < 2147483648)
    (k1 : (10 ≤ v6) → T (d + 1) 230 67 [some (aR 188), some (aI v1), some (aI v2), some (aI v3), some (aI v4), some (aI (v5 + 1)), none] [] (G, c) Q)
    (s2 : (v6 < 10) → 0 ≤ (51 + v1))
    (s3 : (v6 < 10) → (51 + v1) < 514)
    (ex1 : c 190 (51 + v1) = x1)
    (m5 : (v6 < 10) → TM d 165 [aI x1, aI v4] (G, c) (fun r h' => T (d + 1) 230 102 [some (aR 188), some (aI v1), some (aI v2), some (aI v3), some (aI v4), some (aI v5), some (aI v6)] (r.toList ++ []) h' Q)) :
    T (d + 1) 230 81 [some (aR 188), some (aI v1), some (aI v2), some (aI v3), some (aI v4), some (aI v5), some (aI v6)] [] (G, c) Q := by
  refine e_L (L' := [some (aR 188), some (aI v1), some (aI v2), some (aI v3), some (aI v4), some (aI v5), some (aI v6)]) (st' := [aI v6]) (show decode (mC 230) 81 = .ok (.iload 6, 2) by decide +kernel) rfl rfl ?_
  refine e_P (st' := [aI 10, aI v6]) (show decode (mC 230) 83 = .ok (.bipush 10, 2) by decide +kernel) rfl rfl rfl ?_
  refine e_ge2 (t := 184) (show decode (mC 230) 85 = .ok (.if_icmp .ge 99, 3) by decide +kernel) (by decide) s0 (by decide) (fun p1 => ?_) (fun p1 => ?_)
  · refine e_L (L' := [some (aR 188), some (aI v1), some (aI v2), some (aI v3), some (aI v4), some (aI (v5 + 1)), some (aI v6)]) (st' := []) (show decode (mC 230) 184 = .ok (.iinc 5 1, 3) by decide +kernel) rfl rfl ?_
    refine e_go (t := 67) (show decode (mC 230) 187 = .ok (.goto (-120), 3) by decide +kernel) (by decide) ?_
    exact T_le hQ (leS (leS (leS (leS (leS (leS (leN leE))))))) (k1 p1)
  · refine e_L (L' := [some (aR 188), some (aI v1), some (aI v2), some (aI v3), some (aI v4), some (aI v5), some (aI v6)]) (st' := [aR 188]) (show decode (mC 230) 88 = .ok (.aload_n 0, 1) by decide +kernel) rfl (by show (if 188 = 0 then none else some (_, _)) = _; rw [if_neg (by decide)]) ?_
    refine e_getR (w := 190) (show decode (mC 230) 89 = .ok (.getfield 33, 3) by decide +kernel) (show pl 12 33 = some (0, 12, 6, 0) by decide +kernel) (by decide) (sh_ok hG (by decide +kernel)) (sh_rf hG (by decide +kernel)) ?_
    refine e_P (st' := [aI 51, aR 190]) (show decode (mC 230) 92 = .ok (.bipush 51, 2) by decide +kernel) rfl rfl rfl ?_
    refine e_L (L' := [some (aR 188), some (aI v1), some (aI v2), some (aI v3), some (aI v4), some (aI v5), some (aI v6)]) (st' := [aI v1, aI 51, aR 190]) (show decode (mC 230) 94 = .ok (.iload_n 1, 1) by decide +kernel) rfl rfl ?_
    refine e_P (st' := [aI (51 + v1), aR 190]) (show decode (mC 230) 95 = .ok (.iadd, 1) by decide +kernel) rfl rfl rfl ?_
    refine e_ialdx (n := 514) (show decode (mC 230) 96 = .ok (.iaload, 1) by decide +kernel) (sh_ok hG (by decide +kernel)) (sh_ln hG (by decide +kernel)) (by decide) (s2 p1) (s3 p1) ex1 ?_
    refine e_L (L' := [some (aR 188), some (aI v1), some (aI v2), some (aI v3), some (aI v4), some (aI v5), some (aI v6)]) (st' := [aI v4, aI x1]) (show decode (mC 230) 97 = .ok (.iload 4, 2) by decide +kernel) rfl rfl ?_
    exact e_S (as := [aI x1, aI v4]) (rest := []) (show decode (mC 230) 99 = .ok (.invokestatic 219, 3) by decide +kernel) (by decide +kernel) (show (decide ((2 : Nat) = mA 165) && decide (165 < q_law)) = true by decide +kernel) rfl (show (0 : Nat) ≤ 8 by decide) (show (2 : Nat) ≤ mL 165 by decide +kernel) (m5 p1)
/-- SoulOfficeModel.were(II)I, from 102 -/
theorem b230_102 (hG : Shp G) {v1 v2 v3 v4 v5 v6 u0 x1 : Int}
    (s0 : -2147483648 ≤ u0 ∧ u0 < 2147483648)
    (k1 : (u0 = 0) → T (d + 1) 230 81 [some (aR 188), some (aI v1), some (aI v2), some (aI v3), some (aI v4), some (aI v5), some (aI (v6 + 1))] [] (G, c) Q)
    (s2 : (¬ u0 = 0) → 0 ≤ (51 + v2))
    (s3 : (¬ u0 = 0) → (51 + v2) < 514)
    (ex1 : c 190 (51 + v2) = x1)
    (m5 : (¬ u0 = 0) → TM d 165 [aI x1, aI v5] (G, c) (fun r h' => T (d + 1) 230 119 [some (aR 188), some (aI v1), some (aI v2), some (aI v3), some (aI v4), some (aI v5), some (aI v6)] (r.toList ++ []) h' Q)) :
    T (d + 1) 230 102 [some (aR 188), some (aI v1), some (aI v2), some (aI v3), some (aI v4), some (aI v5), some (aI v6)] [aI u0] (G, c) Q := by
  refine e_eq1 (t := 178) (show decode (mC 230) 102 = .ok (.ifCond .eq 76, 3) by decide +kernel) (by decide) s0 (fun p1 => ?_) (fun p1 => ?_)
  · refine e_L (L' := [some (aR 188), some (aI v1), some (aI v2), some (aI v3), some (aI v4), some (aI v5), some (aI (v6 + 1))]) (st' := []) (show decode (mC 230) 178 = .ok (.iinc 6 1, 3) by decide +kernel) rfl rfl ?_
    refine e_go (t := 81) (show decode (mC 230) 181 = .ok (.goto (-100), 3) by decide +kernel) (by decide) ?_
    exact (k1 p1)
  · refine e_L (L' := [some (aR 188), some (aI v1), some (aI v2), some (aI v3), some (aI v4), some (aI v5), some (aI v6)]) (st' := [aR 188]) (show decode (mC 230) 105 = .ok (.aload_n 0, 1) by decide +kernel) rfl (by show (if 188 = 0 then none else some (_, _)) = _; rw [if_neg (by decide)]) ?_
    refine e_getR (w := 190) (show decode (mC 230) 106 = .ok (.getfield 33, 3) by decide +kernel) (show pl 12 33 = some (0, 12, 6, 0) by decide +kernel) (by decide) (sh_ok hG (by decide +kernel)) (sh_rf hG (by decide +kernel)) ?_
    refine e_P (st' := [aI 51, aR 190]) (show decode (mC 230) 109 = .ok (.bipush 51, 2) by decide +kernel) rfl rfl rfl ?_
    refine e_L (L' := [some (aR 188), some (aI v1), some (aI v2), some (aI v3), some (aI v4), some (aI v5), some (aI v6)]) (st' := [aI v2, aI 51, aR 190]) (show decode (mC 230) 111 = .ok (.iload_n 2, 1) by decide +kernel) rfl rfl ?_
    refine e_P (st' := [aI (51 + v2), aR 190]) (show decode (mC 230) 112 = .ok (.iadd, 1) by decide +kernel) rfl rfl rfl ?_
    refine e_ialdx (n := 514) (show decode (mC 230) 113 = .ok (.iaload, 1) by decide +kernel) (sh_ok hG (by decide +kernel)) (sh_ln hG (by decide +kernel)) (by decide) (s2 p1) (s3 p1) ex1 ?_
    refine e_L (L' := [some (aR 188), some (aI v1), some (aI v2), some (aI v3), some (aI v4), some (aI v5), some (aI v6)]) (st' := [aI v5, aI x1]) (show decode (mC 230) 114 = .ok (.iload 5, 2) by decide +kernel) rfl rfl ?_
    exact e_S (as := [aI x1, aI v5]) (rest := []) (show decode (mC 230) 116 = .ok (.invokestatic 219, 3) by decide +kernel) (by decide +kernel) (show (decide ((2 : Nat) = mA 165) && decide (165 < q_law)) = true by decide +kernel) rfl (show (0 : Nat) ≤ 8 by decide) (show (2 : Nat) ≤ mL 165 by decide +kernel) (m5 p1)
/-- SoulOfficeModel.were(II)I, from 119 -/
theorem b230_119 (hG : Shp G) {v1 v2 v3 v4 v5 v6 u0 : Int}
    (s0 : -2147483648 ≤ u0 ∧ u0 < 2147483648)
    (k1 : (u0 = 0) → T (d + 1) 230 81 [some (aR 188), some (aI v1), some (aI v2), some (aI v3), some (aI v4), some (aI v5), some (aI (v6 + 1))] [] (G, c) Q)
    (m2 : (¬ u0 = 0) → TM d 229 [aR 188, aI v4, aI v5, aI v6] (G, c) (fun r h' => T (d + 1) 230 132 [some (aR 188), some (aI v1), some (aI v2), some (aI v3), some (aI v4), some (aI v5), some (aI v6)] (r.toList ++ []) h' Q)) :
    T (d + 1) 230 119 [some (aR 188), some (aI v1), some (aI v2), some (aI v3), some (aI v4), some (aI v5), some (aI v6)] [aI u0] (G, c) Q := by
  refine e_eq1 (t := 178) (show decode (mC 230) 119 = .ok (.ifCond .eq 59, 3) by decide +kernel) (by decide) s0 (fun p1 => ?_) (fun p1 => ?_)
  · refine e_L (L' := [some (aR 188), some (aI v1), some (aI v2), some (aI v3), some (aI v4), some (aI v5), some (aI (v6 + 1))]) (st' := []) (show decode (mC 230) 178 = .ok (.iinc 6 1, 3) by decide +kernel) rfl rfl ?_
    refine e_go (t := 81) (show decode (mC 230) 181 = .ok (.goto (-100), 3) by decide +kernel) (by decide) ?_
    exact (k1 p1)
  · refine e_L (L' := [some (aR 188), some (aI v1), some (aI v2), some (aI v3), some (aI v4), some (aI v5), some (aI v6)]) (st' := [aR 188]) (show decode (mC 230) 122 = .ok (.aload_n 0, 1) by decide +kernel) rfl (by show (if 188 = 0 then none else some (_, _)) = _; rw [if_neg (by decide)]) ?_
    refine e_L (L' := [some (aR 188), some (aI v1), some (aI v2), some (aI v3), some (aI v4), some (aI v5), some (aI v6)]) (st' := [aI v4, aR 188]) (show decode (mC 230) 123 = .ok (.iload 4, 2) by decide +kernel) rfl rfl ?_
    refine e_L (L' := [some (aR 188), some (aI v1), some (aI v2), some (aI v3), some (aI v4), some (aI v5), some (aI v6)]) (st' := [aI v5, aI v4, aR 188]) (show decode (mC 230) 125 = .ok (.iload 5, 2) by decide +kernel) rfl rfl ?_
    refine e_L (L' := [some (aR 188), some (aI v1), some (aI v2), some (aI v3), some (aI v4), some (aI v5), some (aI v6)]) (st' := [aI v6, aI v5, aI v4, aR 188]) (show decode (mC 230) 127 = .ok (.iload 6, 2) by decide +kernel) rfl rfl ?_
    exact e_V (as := [aR 188, aI v4, aI v5, aI v6]) (rest := []) (show decode (mC 230) 129 = .ok (.invokevirtual 329, 3) by decide +kernel) (by decide +kernel) (show (decide ((4 : Nat) = mA 229) && decide (229 < q_law)) = true by decide +kernel) rfl (show (0 : Nat) ≤ 8 by decide) (show (4 : Nat) ≤ mL 229 by decide +kernel) rfl (sh_ok hG (by decide +kernel)) (m2 p1)
/-- SoulOfficeModel.were(II)I, from 132 -/
theorem b230_132 (hG : Shp G) {v1 v2 v3 v4 v5 v6 u0 : Int}
    (s0 : -2147483648 ≤ u0 ∧ u0 < 2147483648)
    (s1 : (¬ u0 = 0) → -2147483648 ≤ (v3 + 1) ∧ (v3 + 1) < 2147483648)
    (k2 : (¬ u0 = 0) → ((v3 + 1) ≤ 1) → T (d + 1) 230 81 [some (aR 188), some (aI v1), some (aI v2), some (aI (v3 + 1)), some (aI v4), some (aI v5), some (aI (v6 + 1))] [] (G, (q_up (q_up (q_up (q_up c 188 31 1) 202 0 v4) 202 1 v5) 202 2 v6)) Q)
    (k3 : (¬ u0 = 0) → (1 < (v3 + 1)) → T (d + 1) 230 81 [some (aR 188), some (aI v1), some (aI v2), some (aI (v3 + 1)), some (aI v4), some (aI v5), some (aI (v6 + 1))] [] (G, c) Q)
    (k4 : (u0 = 0) → T (d + 1) 230 81 [some (aR 188), some (aI v1), some (aI v2), some (aI v3), some (aI v4), some (aI v5), some (aI (v6 + 1))] [] (G, c) Q) :
    T (d + 1) 230 132 [some (aR 188), some (aI v1), some (aI v2), some (aI v3), some (aI v4), some (aI v5), some (aI v6)] [aI u0] (G, c) Q := by
  refine e_ne1 (t := 138) (show decode (mC 230) 132 = .ok (.ifCond .ne 6, 3) by decide +kernel) (by decide) s0 (fun p1 => ?_) (fun p1 => ?_)
  · refine e_L (L' := [some (aR 188), some (aI v1), some (aI v2), some (aI (v3 + 1)), some (aI v4), some (aI v5), some (aI v6)]) (st' := []) (show decode (mC 230) 138 = .ok (.iinc 3 1, 3) by decide +kernel) rfl rfl ?_
    refine e_L (L' := [some (aR 188), some (aI v1), some (aI v2), some (aI (v3 + 1)), some (aI v4), some (aI v5), some (aI v6)]) (st' := [aI (v3 + 1)]) (show decode (mC 230) 141 = .ok (.iload_n 3, 1) by decide +kernel) rfl rfl ?_
    refine e_P (st' := [aI 1, aI (v3 + 1)]) (show decode (mC 230) 142 = .ok (.iconst 1, 1) by decide +kernel) rfl rfl rfl ?_
    refine e_le2 (t := 149) (show decode (mC 230) 143 = .ok (.if_icmp .le 6, 3) by decide +kernel) (by decide) (s1 p1) (by decide) (fun p2 => ?_) (fun p2 => ?_)
    · refine e_L (L' := [some (aR 188), some (aI v1), some (aI v2), some (aI (v3 + 1)), some (aI v4), some (aI v5), some (aI v6)]) (st' := [aR 188]) (show decode (mC 230) 149 = .ok (.aload_n 0, 1) by decide +kernel) rfl (by show (if 188 = 0 then none else some (_, _)) = _; rw [if_neg (by decide)]) ?_
      refine e_P (st' := [aI 1, aR 188]) (show decode (mC 230) 150 = .ok (.iconst 1, 1) by decide +kernel) rfl rfl rfl ?_
      refine e_putZ (show decode (mC 230) 151 = .ok (.putfield 332, 3) by decide +kernel) (show pl 12 332 = some (0, 12, 31, 0) by decide +kernel) (by decide) (sh_ok hG (by decide +kernel)) (by decide) ?_
      refine e_L (L' := [some (aR 188), some (aI v1), some (aI v2), some (aI (v3 + 1)), some (aI v4), some (aI v5), some (aI v6)]) (st' := [aR 188]) (show decode (mC 230) 154 = .ok (.aload_n 0, 1) by decide +kernel) rfl (by show (if 188 = 0 then none else some (_, _)) = _; rw [if_neg (by decide)]) ?_
      refine e_getR (w := 202) (show decode (mC 230) 155 = .ok (.getfield 74, 3) by decide +kernel) (show pl 12 74 = some (0, 12, 30, 0) by decide +kernel) (by decide) (sh_ok hG (by decide +kernel)) (sh_rf hG (by decide +kernel)) ?_
      refine e_P (st' := [aI 0, aR 202]) (show decode (mC 230) 158 = .ok (.iconst 0, 1) by decide +kernel) rfl rfl rfl ?_
      refine e_L (L' := [some (aR 188), some (aI v1), some (aI v2), some (aI (v3 + 1)), some (aI v4), some (aI v5), some (aI v6)]) (st' := [aI v4, aI 0, aR 202]) (show decode (mC 230) 159 = .ok (.iload 4, 2) by decide +kernel) rfl rfl ?_
      refine e_iast (n := 3) (show decode (mC 230) 161 = .ok (.iastore, 1) by decide +kernel) (sh_ok hG (by decide +kernel)) (sh_ln hG (by decide +kernel)) (by decide) (by decide) (by decide) ?_
      refine e_L (L' := [some (aR 188), some (aI v1), some (aI v2), some (aI (v3 + 1)), some (aI v4), some (aI v5), some (aI v6)]) (st' := [aR 188]) (show decode (mC 230) 162 = .ok (.aload_n 0, 1) by decide +kernel) rfl (by show (if 188 = 0 then none else some (_, _)) = _; rw [if_neg (by decide)]) ?_
      refine e_getR (w := 202) (show decode (mC 230) 163 = .ok (.getfield 74, 3) by decide +kernel) (show pl 12 74 = some (0, 12, 30, 0) by decide +kernel) (by decide) (sh_ok hG (by decide +kernel)) (sh_rf hG (by decide +kernel)) ?_
      refine e_P (st' := [aI 1, aR 202]) (show decode (mC 230) 166 = .ok (.iconst 1, 1) by decide +kernel) rfl rfl rfl ?_
      refine e_L (L' := [some (aR 188), some (aI v1), some (aI v2), some (aI (v3 + 1)), some (aI v4), some (aI v5), some (aI v6)]) (st' := [aI v5, aI 1, aR 202]) (show decode (mC 230) 167 = .ok (.iload 5, 2) by decide +kernel) rfl rfl ?_
      refine e_iast (n := 3) (show decode (mC 230) 169 = .ok (.iastore, 1) by decide +kernel) (sh_ok hG (by decide +kernel)) (sh_ln hG (by decide +kernel)) (by decide) (by decide) (by decide) ?_
      refine e_L (L' := [some (aR 188), some (aI v1), some (aI v2), some (aI (v3 + 1)), some (aI v4), some (aI v5), some (aI v6)]) (st' := [aR 188]) (show decode (mC 230) 170 = .ok (.aload_n 0, 1) by decide +kernel) rfl (by show (if 188 = 0 then none else some (_, _)) = _; rw [if_neg (by decide)]) ?_
      refine e_getR (w := 202) (show decode (mC 230) 171 = .ok (.getfield 74, 3) by decide +kernel) (show pl 12 74 = some (0, 12, 30, 0) by decide +kernel) (by decide) (sh_ok hG (by decide +kernel)) (sh_rf hG (by decide +kernel)) ?_
      refine e_P (st' := [aI 2, aR 202]) (show decode (mC 230) 174 = .ok (.iconst 2, 1) by decide +kernel) rfl rfl rfl ?_
      refine e_L (L' := [some (aR 188), some (aI v1), some (aI v2), some (aI (v3 + 1)), some (aI v4), some (aI v5), some (aI v6)]) (st' := [aI v6, aI 2, aR 202]) (show decode (mC 230) 175 = .ok (.iload 6, 2) by decide +kernel) rfl rfl ?_
      refine e_iast (n := 3) (show decode (mC 230) 177 = .ok (.iastore, 1) by decide +kernel) (sh_ok hG (by decide +kernel)) (sh_ln hG (by decide +kernel)) (by decide) (by decide) (by decide) ?_
      refine e_L (L' := [some (aR 188), some (aI v1), some (aI v2), some (aI (v3 + 1)), some (aI v4), some (aI v5), some (aI (v6 + 1))]) (st' := []) (show decode (mC 230) 178 = .ok (.iinc 6 1, 3) by decide +kernel) rfl rfl ?_
      refine e_go (t := 81) (show decode (mC 230) 181 = .ok (.goto (-100), 3) by decide +kernel) (by decide) ?_
      exact (k2 p1 p2)
    · refine e_go (t := 178) (show decode (mC 230) 146 = .ok (.goto 32, 3) by decide +kernel) (by decide) ?_
      refine e_L (L' := [some (aR 188), some (aI v1), some (aI v2), some (aI (v3 + 1)), some (aI v4), some (aI v5), some (aI (v6 + 1))]) (st' := []) (show decode (mC 230) 178 = .ok (.iinc 6 1, 3) by decide +kernel) rfl rfl ?_
      refine e_go (t := 81) (show decode (mC 230) 181 = .ok (.goto (-100), 3) by decide +kernel) (by decide) ?_
      exact (k3 p1 p2)
  · refine e_go (t := 178) (show decode (mC 230) 135 = .ok (.goto 43, 3) by decide +kernel) (by decide) ?_
    refine e_L (L' := [some (aR 188), some (aI v1), some (aI v2), some (aI v3), some (aI v4), some (aI v5), some (aI (v6 + 1))]) (st' := []) (show decode (mC 230) 178 = .ok (.iinc 6 1, 3) by decide +kernel) rfl rfl ?_
    refine e_go (t := 81) (show decode (mC 230) 181 = .ok (.goto (-100), 3) by decide +kernel) (by decide) ?_
    exact (k4 p1)
/-- SoulOfficeModel.first(I)I, from 0 -/
theorem b231_0 (hG : Shp G) {v1 x1 : Int}
    (ex1 : (q_up c 188 0 0) 188 31 = x1)
    (s1 : -2147483648 ≤ x1 ∧ x1 < 2147483648)
    (z2 : (x1 = 0) → Q (.inl (some (aI (-1)))) (G, (q_up c 188 0 0)))
    (m3 : (¬ x1 = 0) → TM d 164 [aI v1, aI 0, aI 2] (G, (q_up c 188 0 0)) (fun r h' => T (d + 1) 231 18 [some (aR 188), some (aI v1)] (r.toList ++ []) h' Q)) :
    T (d + 1) 231 0 [some (aR 188), some (aI v1)] [] (G, c) Q := by
  refine e_L (L' := [some (aR 188), some (aI v1)]) (st' := [aR 188]) (show decode (mC 231) 0 = .ok (.aload_n 0, 1) by decide +kernel) rfl (by show (if 188 = 0 then none else some (_, _)) = _; rw [if_neg (by decide)]) ?_
  refine e_P (st' := [aI 0, aR 188]) (show decode (mC 231) 1 = .ok (.iconst 0, 1) by decide +kernel) rfl rfl rfl ?_
  refine e_putI (show decode (mC 231) 2 = .ok (.putfield 1, 3) by decide +kernel) (show pl 12 1 = some (0, 12, 0, 0) by decide +kernel) (by decide) (sh_ok hG (by decide +kernel)) ?_
  refine e_L (L' := [some (aR 188), some (aI v1)]) (st' := [aR 188]) (show decode (mC 231) 5 = .ok (.aload_n 0, 1) by decide +kernel) rfl (by show (if 188 = 0 then none else some (_, _)) = _; rw [if_neg (by decide)]) ?_
  refine e_getIx (show decode (mC 231) 6 = .ok (.getfield 332, 3) by decide +kernel) (show pl 12 332 = some (0, 12, 31, 0) by decide +kernel) (by decide) (sh_ok hG (by decide +kernel)) ex1 ?_
  refine e_eq1 (t := 30) (show decode (mC 231) 9 = .ok (.ifCond .eq 21, 3) by decide +kernel) (by decide) s1 (fun p1 => ?_) (fun p1 => ?_)
  · refine e_P (st' := [aI (-1)]) (show decode (mC 231) 30 = .ok (.iconst (-1), 1) by decide +kernel) rfl rfl rfl ?_
    exact e_iret (show decode (mC 231) 31 = .ok (.ireturn, 1) by decide +kernel) rfl (z2 p1)
  · refine e_L (L' := [some (aR 188), some (aI v1)]) (st' := [aI v1]) (show decode (mC 231) 12 = .ok (.iload_n 1, 1) by decide +kernel) rfl rfl ?_
    refine e_P (st' := [aI 0, aI v1]) (show decode (mC 231) 13 = .ok (.iconst 0, 1) by decide +kernel) rfl rfl rfl ?_
    refine e_P (st' := [aI 2, aI 0, aI v1]) (show decode (mC 231) 14 = .ok (.iconst 2, 1) by decide +kernel) rfl rfl rfl ?_
    exact e_S (as := [aI v1, aI 0, aI 2]) (rest := []) (show decode (mC 231) 15 = .ok (.invokestatic 184, 3) by decide +kernel) (by decide +kernel) (show (decide ((3 : Nat) = mA 164) && decide (164 < q_law)) = true by decide +kernel) rfl (show (0 : Nat) ≤ 8 by decide) (show (3 : Nat) ≤ mL 164 by decide +kernel) (m3 p1)
/-- SoulOfficeModel.first(I)I, from 18 -/
theorem b231_18 (hG : Shp G) {v1 u0 x1 : Int}
    (s0 : -2147483648 ≤ u0 ∧ u0 < 2147483648)
    (z1 : (u0 = 0) → Q (.inl (some (aI (-1)))) (G, c))
    (s2 : (¬ u0 = 0) → 0 ≤ v1)
    (s3 : (¬ u0 = 0) → v1 < 3)
    (ex1 : c 202 v1 = x1)
    (z5 : (¬ u0 = 0) → Q (.inl (some (aI x1))) (G, c)) :
    T (d + 1) 231 18 [some (aR 188), some (aI v1)] [aI u0] (G, c) Q := by
  refine e_eq1 (t := 30) (show decode (mC 231) 18 = .ok (.ifCond .eq 12, 3) by decide +kernel) (by decide) s0 (fun p1 => ?_) (fun p1 => ?_)
  · refine e_P (st' := [aI (-1)]) (show decode (mC 231) 30 = .ok (.iconst (-1), 1) by decide +kernel) rfl rfl rfl ?_
    exact e_iret (show decode (mC 231) 31 = .ok (.ireturn, 1) by decide +kernel) rfl (z1 p1)
  · refine e_L (L' := [some (aR 188), some (aI v1)]) (st' := [aR 188]) (show decode (mC 231) 21 = .ok (.aload_n 0, 1) by decide +kernel) rfl (by show (if 188 = 0 then none else some (_, _)) = _; rw [if_neg (by decide)]) ?_
    refine e_getR (w := 202) (show decode (mC 231) 22 = .ok (.getfield 74, 3) by decide +kernel) (show pl 12 74 = some (0, 12, 30, 0) by decide +kernel) (by decide) (sh_ok hG (by decide +kernel)) (sh_rf hG (by decide +kernel)) ?_
    refine e_L (L' := [some (aR 188), some (aI v1)]) (st' := [aI v1, aR 202]) (show decode (mC 231) 25 = .ok (.iload_n 1, 1) by decide +kernel) rfl rfl ?_
    refine e_ialdx (n := 3) (show decode (mC 231) 26 = .ok (.iaload, 1) by decide +kernel) (sh_ok hG (by decide +kernel)) (sh_ln hG (by decide +kernel)) (by decide) (s2 p1) (s3 p1) ex1 ?_
    refine e_go (t := 31) (show decode (mC 231) 27 = .ok (.goto 4, 3) by decide +kernel) (by decide) ?_
    exact e_iret (show decode (mC 231) 31 = .ok (.ireturn, 1) by decide +kernel) rfl (z5 p1)
/-- SoulOfficeModel.kindBy(II)I, from 0 -/
theorem b232_0 (hG : Shp G) {v1 v2 x1 : Int}
    (s0 : 0 ≤ (173 + v1))
    (s1 : (173 + v1) < 514)
    (ex1 : c 190 (173 + v1) = x1)
    (s3 : -2147483648 ≤ v2 ∧ v2 < 2147483648)
    (s4 : (¬ v2 = 0) → -2147483648 ≤ (x1 - 1) ∧ (x1 - 1) < 2147483648)
    (z5 : (¬ v2 = 0) → ((x1 - 1) < v2) → Q (.inl (some (aI v2))) (G, c))
    (z6 : (¬ v2 = 0) → (v2 ≤ (x1 - 1)) → Q (.inl (some (aI (v2 - 1)))) (G, c))
    (z7 : (v2 = 0) → Q (.inl (some (aI (x1 - 1)))) (G, c)) :
    T d 232 0 [some (aR 188), some (aI v1), some (aI v2), none] [] (G, c) Q := by
  refine e_L (L' := [some (aR 188), some (aI v1), some (aI v2), none]) (st' := [aR 188]) (show decode (mC 232) 0 = .ok (.aload_n 0, 1) by decide +kernel) rfl (by show (if 188 = 0 then none else some (_, _)) = _; rw [if_neg (by decide)]) ?_
  refine e_getR (w := 190) (show decode (mC 232) 1 = .ok (.getfield 33, 3) by decide +kernel) (show pl 12 33 = some (0, 12, 6, 0) by decide +kernel) (by decide) (sh_ok hG (by decide +kernel)) (sh_rf hG (by decide +kernel)) ?_
  refine e_P (st' := [aI 173, aR 190]) (show decode (mC 232) 4 = .ok (.sipush 173, 3) by decide +kernel) rfl rfl rfl ?_
  refine e_L (L' := [some (aR 188), some (aI v1), some (aI v2), none]) (st' := [aI v1, aI 173, aR 190]) (show decode (mC 232) 7 = .ok (.iload_n 1, 1) by decide +kernel) rfl rfl ?_
  refine e_P (st' := [aI (173 + v1), aR 190]) (show decode (mC 232) 8 = .ok (.iadd, 1) by decide +kernel) rfl rfl rfl ?_
  refine e_ialdx (n := 514) (show decode (mC 232) 9 = .ok (.iaload, 1) by decide +kernel) (sh_ok hG (by decide +kernel)) (sh_ln hG (by decide +kernel)) (by decide) s0 s1 ex1 ?_
  refine e_P (st' := [aI 1, aI x1]) (show decode (mC 232) 10 = .ok (.iconst 1, 1) by decide +kernel) rfl rfl rfl ?_
  refine e_P (st' := [aI (x1 - 1)]) (show decode (mC 232) 11 = .ok (.isub, 1) by decide +kernel) rfl rfl rfl ?_
  refine e_L (L' := [some (aR 188), some (aI v1), some (aI v2), some (aI (x1 - 1))]) (st' := []) (show decode (mC 232) 12 = .ok (.istore_n 3, 1) by decide +kernel) rfl rfl ?_
  refine e_L (L' := [some (aR 188), some (aI v1), some (aI v2), some (aI (x1 - 1))]) (st' := [aI v2]) (show decode (mC 232) 13 = .ok (.iload_n 2, 1) by decide +kernel) rfl rfl ?_
  refine e_ne1 (t := 21) (show decode (mC 232) 14 = .ok (.ifCond .ne 7, 3) by decide +kernel) (by decide) s3 (fun p1 => ?_) (fun p1 => ?_)
  · refine e_L (L' := [some (aR 188), some (aI v1), some (aI v2), some (aI (x1 - 1))]) (st' := [aI v2]) (show decode (mC 232) 21 = .ok (.iload_n 2, 1) by decide +kernel) rfl rfl ?_
    refine e_L (L' := [some (aR 188), some (aI v1), some (aI v2), some (aI (x1 - 1))]) (st' := [aI (x1 - 1), aI v2]) (show decode (mC 232) 22 = .ok (.iload_n 3, 1) by decide +kernel) rfl rfl ?_
    refine e_gt2 (t := 32) (show decode (mC 232) 23 = .ok (.if_icmp .gt 9, 3) by decide +kernel) (by decide) s3 (s4 p1) (fun p2 => ?_) (fun p2 => ?_)
    · refine e_L (L' := [some (aR 188), some (aI v1), some (aI v2), some (aI (x1 - 1))]) (st' := [aI v2]) (show decode (mC 232) 32 = .ok (.iload_n 2, 1) by decide +kernel) rfl rfl ?_
      exact e_iret (show decode (mC 232) 33 = .ok (.ireturn, 1) by decide +kernel) rfl (z5 p1 p2)
    · refine e_L (L' := [some (aR 188), some (aI v1), some (aI v2), some (aI (x1 - 1))]) (st' := [aI v2]) (show decode (mC 232) 26 = .ok (.iload_n 2, 1) by decide +kernel) rfl rfl ?_
      refine e_P (st' := [aI 1, aI v2]) (show decode (mC 232) 27 = .ok (.iconst 1, 1) by decide +kernel) rfl rfl rfl ?_
      refine e_P (st' := [aI (v2 - 1)]) (show decode (mC 232) 28 = .ok (.isub, 1) by decide +kernel) rfl rfl rfl ?_
      refine e_go (t := 33) (show decode (mC 232) 29 = .ok (.goto 4, 3) by decide +kernel) (by decide) ?_
      exact e_iret (show decode (mC 232) 33 = .ok (.ireturn, 1) by decide +kernel) rfl (z6 p1 p2)
  · refine e_L (L' := [some (aR 188), some (aI v1), some (aI v2), some (aI (x1 - 1))]) (st' := [aI (x1 - 1)]) (show decode (mC 232) 17 = .ok (.iload_n 3, 1) by decide +kernel) rfl rfl ?_
    refine e_go (t := 33) (show decode (mC 232) 18 = .ok (.goto 15, 3) by decide +kernel) (by decide) ?_
    exact e_iret (show decode (mC 232) 33 = .ok (.ireturn, 1) by decide +kernel) rfl (z7 p1)
/-- SoulOfficeModel.canBe(III)Z, from 0 -/
theorem b233_0 (hG : Shp G) {v1 v2 v3 : Int}
    (k0 : T (d + 1) 233 3 [some (aR 188), some (aI v1), some (aI v2), some (aI v3), some (aI 0), none] [] (G, c) Q) :
    T (d + 1) 233 0 [some (aR 188), some (aI v1), some (aI v2), some (aI v3), none, none] [] (G, c) Q := by
  refine e_P (st' := [aI 0]) (show decode (mC 233) 0 = .ok (.iconst 0, 1) by decide +kernel) rfl rfl rfl ?_
  refine e_L (L' := [some (aR 188), some (aI v1), some (aI v2), some (aI v3), some (aI 0), none]) (st' := []) (show decode (mC 233) 1 = .ok (.istore 4, 2) by decide +kernel) rfl rfl ?_
  exact k0
/-- SoulOfficeModel.canBe(III)Z, from 3 -/
theorem b233_3 (hG : Shp G) {v1 v2 v3 v4 x1 x2 : Int}
    (ex1 : c 190 0 = x1)
    (s1 : -2147483648 ≤ v4 ∧ v4 < 2147483648)
    (s2 : -2147483648 ≤ x1 ∧ x1 < 2147483648)
    (k3 : (x1 ≤ v4) → T (d + 1) 233 45 [some (aR 188), some (aI v1), some (aI v2), some (aI v3), some (aI 0), none] [] (G, (q_up c 188 34 0)) Q)
    (s4 : (v4 < x1) → 0 ≤ (9 + v4))
    (s5 : (v4 < x1) → (9 + v4) < 514)
    (ex2 : c 190 (9 + v4) = x2)
    (s7 : (v4 < x1) → 0 ≤ v4)
    (s8 : (v4 < x1) → v4 < 6)
    (k9 : (v4 < x1) → T (d + 1) 233 3 [some (aR 188), some (aI v1), some (aI v2), some (aI v3), some (aI (v4 + 1)), none] [] (G, (q_up c 204 v4 x2)) Q) :
    T (d + 1) 233 3 [some (aR 188), some (aI v1), some (aI v2), some (aI v3), some (aI v4), none] [] (G, c) Q := by
  refine e_L (L' := [some (aR 188), some (aI v1), some (aI v2), some (aI v3), some (aI v4), none]) (st' := [aI v4]) (show decode (mC 233) 3 = .ok (.iload 4, 2) by decide +kernel) rfl rfl ?_
  refine e_L (L' := [some (aR 188), some (aI v1), some (aI v2), some (aI v3), some (aI v4), none]) (st' := [aR 188, aI v4]) (show decode (mC 233) 5 = .ok (.aload_n 0, 1) by decide +kernel) rfl (by show (if 188 = 0 then none else some (_, _)) = _; rw [if_neg (by decide)]) ?_
  refine e_getR (w := 190) (show decode (mC 233) 6 = .ok (.getfield 33, 3) by decide +kernel) (show pl 12 33 = some (0, 12, 6, 0) by decide +kernel) (by decide) (sh_ok hG (by decide +kernel)) (sh_rf hG (by decide +kernel)) ?_
  refine e_P (st' := [aI 0, aR 190, aI v4]) (show decode (mC 233) 9 = .ok (.iconst 0, 1) by decide +kernel) rfl rfl rfl ?_
  refine e_ialdx (n := 514) (show decode (mC 233) 10 = .ok (.iaload, 1) by decide +kernel) (sh_ok hG (by decide +kernel)) (sh_ln hG (by decide +kernel)) (by decide) (by decide) (by decide) ex1 ?_
  refine e_ge2 (t := 37) (show decode (mC 233) 11 = .ok (.if_icmp .ge 26, 3) by decide +kernel) (by decide) s1 s2 (fun p1 => ?_) (fun p1 => ?_)
  · refine e_L (L' := [some (aR 188), some (aI v1), some (aI v2), some (aI v3), some (aI v4), none]) (st' := [aR 188]) (show decode (mC 233) 37 = .ok (.aload_n 0, 1) by decide +kernel) rfl (by show (if 188 = 0 then none else some (_, _)) = _; rw [if_neg (by decide)]) ?_
    refine e_P (st' := [aI 0, aR 188]) (show decode (mC 233) 38 = .ok (.iconst 0, 1) by decide +kernel) rfl rfl rfl ?_
    refine e_putI (show decode (mC 233) 39 = .ok (.putfield 335, 3) by decide +kernel) (show pl 12 335 = some (0, 12, 34, 0) by decide +kernel) (by decide) (sh_ok hG (by decide +kernel)) ?_
    refine e_P (st' := [aI 0]) (show decode (mC 233) 42 = .ok (.iconst 0, 1) by decide +kernel) rfl rfl rfl ?_
    refine e_L (L' := [some (aR 188), some (aI v1), some (aI v2), some (aI v3), some (aI 0), none]) (st' := []) (show decode (mC 233) 43 = .ok (.istore 4, 2) by decide +kernel) rfl rfl ?_
    exact (k3 p1)
  · refine e_L (L' := [some (aR 188), some (aI v1), some (aI v2), some (aI v3), some (aI v4), none]) (st' := [aR 188]) (show decode (mC 233) 14 = .ok (.aload_n 0, 1) by decide +kernel) rfl (by show (if 188 = 0 then none else some (_, _)) = _; rw [if_neg (by decide)]) ?_
    refine e_getR (w := 204) (show decode (mC 233) 15 = .ok (.getfield 80, 3) by decide +kernel) (show pl 12 80 = some (0, 12, 33, 0) by decide +kernel) (by decide) (sh_ok hG (by decide +kernel)) (sh_rf hG (by decide +kernel)) ?_
    refine e_L (L' := [some (aR 188), some (aI v1), some (aI v2), some (aI v3), some (aI v4), none]) (st' := [aI v4, aR 204]) (show decode (mC 233) 18 = .ok (.iload 4, 2) by decide +kernel) rfl rfl ?_
    refine e_L (L' := [some (aR 188), some (aI v1), some (aI v2), some (aI v3), some (aI v4), none]) (st' := [aR 188, aI v4, aR 204]) (show decode (mC 233) 20 = .ok (.aload_n 0, 1) by decide +kernel) rfl (by show (if 188 = 0 then none else some (_, _)) = _; rw [if_neg (by decide)]) ?_
    refine e_getR (w := 190) (show decode (mC 233) 21 = .ok (.getfield 33, 3) by decide +kernel) (show pl 12 33 = some (0, 12, 6, 0) by decide +kernel) (by decide) (sh_ok hG (by decide +kernel)) (sh_rf hG (by decide +kernel)) ?_
    refine e_P (st' := [aI 9, aR 190, aI v4, aR 204]) (show decode (mC 233) 24 = .ok (.bipush 9, 2) by decide +kernel) rfl rfl rfl ?_
    refine e_L (L' := [some (aR 188), some (aI v1), some (aI v2), some (aI v3), some (aI v4), none]) (st' := [aI v4, aI 9, aR 190, aI v4, aR 204]) (show decode (mC 233) 26 = .ok (.iload 4, 2) by decide +kernel) rfl rfl ?_
    refine e_P (st' := [aI (9 + v4), aR 190, aI v4, aR 204]) (show decode (mC 233) 28 = .ok (.iadd, 1) by decide +kernel) rfl rfl rfl ?_
    refine e_ialdx (n := 514) (show decode (mC 233) 29 = .ok (.iaload, 1) by decide +kernel) (sh_ok hG (by decide +kernel)) (sh_ln hG (by decide +kernel)) (by decide) (s4 p1) (s5 p1) ex2 ?_
    refine e_iast (n := 6) (show decode (mC 233) 30 = .ok (.iastore, 1) by decide +kernel) (sh_ok hG (by decide +kernel)) (sh_ln hG (by decide +kernel)) (by decide) (s7 p1) (s8 p1) ?_
    refine e_L (L' := [some (aR 188), some (aI v1), some (aI v2), some (aI v3), some (aI (v4 + 1)), none]) (st' := []) (show decode (mC 233) 31 = .ok (.iinc 4 1, 3) by decide +kernel) rfl rfl ?_
    refine e_go (t := 3) (show decode (mC 233) 34 = .ok (.goto (-31), 3) by decide +kernel) (by decide) ?_
    exact (k9 p1)
/-- SoulOfficeModel.canBe(III)Z, from 45 -/
theorem b233_45 (hG : Shp G) {v1 v2 v3 v4 x1 x2 : Int}
    (s0 : -2147483648 ≤ v4 ∧ v4 < 2147483648)
    (s1 : -2147483648 ≤ v1 ∧ v1 < 2147483648)
    (z2 : (v1 ≤ v4) → Q (.inl (some (aI 1))) (G, c))
    (s3 : (v4 < v1) → 0 ≤ v4)
    (s4 : (v4 < v1) → v4 < 8)
    (ex1 : c 197 v4 = x1)
    (ex2 : c 198 v4 = x2)
    (m7 : (v4 < v1) → TM d 232 [aR 188, aI x1, aI x2] (G, c) (fun r h' => T (d + 1) 233 69 [some (aR 188), some (aI v1), some (aI v2), some (aI v3), some (aI v4), none] (r.toList ++ []) h' Q)) :
    T (d + 1) 233 45 [some (aR 188), some (aI v1), some (aI v2), some (aI v3), some (aI v4), none] [] (G, c) Q := by
  refine e_L (L' := [some (aR 188), some (aI v1), some (aI v2), some (aI v3), some (aI v4), none]) (st' := [aI v4]) (show decode (mC 233) 45 = .ok (.iload 4, 2) by decide +kernel) rfl rfl ?_
  refine e_L (L' := [some (aR 188), some (aI v1), some (aI v2), some (aI v3), some (aI v4), none]) (st' := [aI v1, aI v4]) (show decode (mC 233) 47 = .ok (.iload_n 1, 1) by decide +kernel) rfl rfl ?_
  refine e_ge2 (t := 164) (show decode (mC 233) 48 = .ok (.if_icmp .ge 116, 3) by decide +kernel) (by decide) s0 s1 (fun p1 => ?_) (fun p1 => ?_)
  · refine e_P (st' := [aI 1]) (show decode (mC 233) 164 = .ok (.iconst 1, 1) by decide +kernel) rfl rfl rfl ?_
    exact e_zret (show decode (mC 233) 165 = .ok (.ireturn, 1) by decide +kernel) rfl (by decide) (z2 p1)
  · refine e_L (L' := [some (aR 188), some (aI v1), some (aI v2), some (aI v3), some (aI v4), none]) (st' := [aR 188]) (show decode (mC 233) 51 = .ok (.aload_n 0, 1) by decide +kernel) rfl (by show (if 188 = 0 then none else some (_, _)) = _; rw [if_neg (by decide)]) ?_
    refine e_L (L' := [some (aR 188), some (aI v1), some (aI v2), some (aI v3), some (aI v4), none]) (st' := [aR 188, aR 188]) (show decode (mC 233) 52 = .ok (.aload_n 0, 1) by decide +kernel) rfl (by show (if 188 = 0 then none else some (_, _)) = _; rw [if_neg (by decide)]) ?_
    refine e_getR (w := 197) (show decode (mC 233) 53 = .ok (.getfield 56, 3) by decide +kernel) (show pl 12 56 = some (0, 12, 24, 0) by decide +kernel) (by decide) (sh_ok hG (by decide +kernel)) (sh_rf hG (by decide +kernel)) ?_
    refine e_L (L' := [some (aR 188), some (aI v1), some (aI v2), some (aI v3), some (aI v4), none]) (st' := [aI v4, aR 197, aR 188]) (show decode (mC 233) 56 = .ok (.iload 4, 2) by decide +kernel) rfl rfl ?_
    refine e_ialdx (n := 8) (show decode (mC 233) 58 = .ok (.iaload, 1) by decide +kernel) (sh_ok hG (by decide +kernel)) (sh_ln hG (by decide +kernel)) (by decide) (s3 p1) (s4 p1) ex1 ?_
    refine e_L (L' := [some (aR 188), some (aI v1), some (aI v2), some (aI v3), some (aI v4), none]) (st' := [aR 188, aI x1, aR 188]) (show decode (mC 233) 59 = .ok (.aload_n 0, 1) by decide +kernel) rfl (by show (if 188 = 0 then none else some (_, _)) = _; rw [if_neg (by decide)]) ?_
    refine e_getR (w := 198) (show decode (mC 233) 60 = .ok (.getfield 59, 3) by decide +kernel) (show pl 12 59 = some (0, 12, 25, 0) by decide +kernel) (by decide) (sh_ok hG (by decide +kernel)) (sh_rf hG (by decide +kernel)) ?_
    refine e_L (L' := [some (aR 188), some (aI v1), some (aI v2), some (aI v3), some (aI v4), none]) (st' := [aI v4, aR 198, aI x1, aR 188]) (show decode (mC 233) 63 = .ok (.iload 4, 2) by decide +kernel) rfl rfl ?_
    refine e_ialdx (n := 8) (show decode (mC 233) 65 = .ok (.iaload, 1) by decide +kernel) (sh_ok hG (by decide +kernel)) (sh_ln hG (by decide +kernel)) (by decide) (s3 p1) (s4 p1) ex2 ?_
    exact e_V (as := [aR 188, aI x1, aI x2]) (rest := []) (show decode (mC 233) 66 = .ok (.invokevirtual 338, 3) by decide +kernel) (by decide +kernel) (show (decide ((3 : Nat) = mA 232) && decide (232 < q_law)) = true by decide +kernel) rfl (show (0 : Nat) ≤ 8 by decide) (show (3 : Nat) ≤ mL 232 by decide +kernel) rfl (sh_ok hG (by decide +kernel)) (m7 p1)
/-- SoulOfficeModel.canBe(III)Z, from 69 -/
theorem b233_69 (hG : Shp G) {v1 v2 v3 v4 u0 x1 x2 : Int}
    (s0 : 0 ≤ v4)
    (s1 : v4 < 8)
    (ex1 : c 197 v4 = x1)
    (s3 : 0 ≤ (51 + x1))
    (s4 : (51 + x1) < 514)
    (ex2 : c 190 (51 + x1) = x2)
    (m6 : TM d 165 [aI x2, aI u0] (G, c) (fun r h' => T (d + 1) 233 91 [some (aR 188), some (aI v1), some (aI v2), some (aI v3), some (aI v4), some (aI u0)] (r.toList ++ []) h' Q)) :
    T (d + 1) 233 69 [some (aR 188), some (aI v1), some (aI v2), some (aI v3), some (aI v4), none] [aI u0] (G, c) Q := by
  refine e_L (L' := [some (aR 188), some (aI v1), some (aI v2), some (aI v3), some (aI v4), some (aI u0)]) (st' := []) (show decode (mC 233) 69 = .ok (.istore 5, 2) by decide +kernel) rfl rfl ?_
  refine e_L (L' := [some (aR 188), some (aI v1), some (aI v2), some (aI v3), some (aI v4), some (aI u0)]) (st' := [aR 188]) (show decode (mC 233) 71 = .ok (.aload_n 0, 1) by decide +kernel) rfl (by show (if 188 = 0 then none else some (_, _)) = _; rw [if_neg (by decide)]) ?_
  refine e_getR (w := 190) (show decode (mC 233) 72 = .ok (.getfield 33, 3) by decide +kernel) (show pl 12 33 = some (0, 12, 6, 0) by decide +kernel) (by decide) (sh_ok hG (by decide +kernel)) (sh_rf hG (by decide +kernel)) ?_
  refine e_P (st' := [aI 51, aR 190]) (show decode (mC 233) 75 = .ok (.bipush 51, 2) by decide +kernel) rfl rfl rfl ?_
  refine e_L (L' := [some (aR 188), some (aI v1), some (aI v2), some (aI v3), some (aI v4), some (aI u0)]) (st' := [aR 188, aI 51, aR 190]) (show decode (mC 233) 77 = .ok (.aload_n 0, 1) by decide +kernel) rfl (by show (if 188 = 0 then none else some (_, _)) = _; rw [if_neg (by decide)]) ?_
  refine e_getR (w := 197) (show decode (mC 233) 78 = .ok (.getfield 56, 3) by decide +kernel) (show pl 12 56 = some (0, 12, 24, 0) by decide +kernel) (by decide) (sh_ok hG (by decide +kernel)) (sh_rf hG (by decide +kernel)) ?_
  refine e_L (L' := [some (aR 188), some (aI v1), some (aI v2), some (aI v3), some (aI v4), some (aI u0)]) (st' := [aI v4, aR 197, aI 51, aR 190]) (show decode (mC 233) 81 = .ok (.iload 4, 2) by decide +kernel) rfl rfl ?_
  refine e_ialdx (n := 8) (show decode (mC 233) 83 = .ok (.iaload, 1) by decide +kernel) (sh_ok hG (by decide +kernel)) (sh_ln hG (by decide +kernel)) (by decide) s0 s1 ex1 ?_
  refine e_P (st' := [aI (51 + x1), aR 190]) (show decode (mC 233) 84 = .ok (.iadd, 1) by decide +kernel) rfl rfl rfl ?_
  refine e_ialdx (n := 514) (show decode (mC 233) 85 = .ok (.iaload, 1) by decide +kernel) (sh_ok hG (by decide +kernel)) (sh_ln hG (by decide +kernel)) (by decide) s3 s4 ex2 ?_
  refine e_L (L' := [some (aR 188), some (aI v1), some (aI v2), some (aI v3), some (aI v4), some (aI u0)]) (st' := [aI u0, aI x2]) (show decode (mC 233) 86 = .ok (.iload 5, 2) by decide +kernel) rfl rfl ?_
  exact e_S (as := [aI x2, aI u0]) (rest := []) (show decode (mC 233) 88 = .ok (.invokestatic 219, 3) by decide +kernel) (by decide +kernel) (show (decide ((2 : Nat) = mA 165) && decide (165 < q_law)) = true by decide +kernel) rfl (show (0 : Nat) ≤ 8 by decide) (show (2 : Nat) ≤ mL 165 by decide +kernel) m6
/-- SoulOfficeModel.canBe(III)Z, from 91 -/
theorem b233_91 (hG : Shp G) {v1 v2 v3 v4 v5 u0 x1 x2 x3 x4 x5 x6 x7 x8 x9 : Int} (hQ : ∀ o o' h', q_eqo o o' → Q o h' → Q o' h')
    (s0 : -2147483648 ≤ u0 ∧ u0 < 2147483648)
    (z1 : (u0 = 0) → Q (.inl (some (aI 0))) (G, c))
    (s2 : (¬ u0 = 0) → 0 ≤ v4)
    (s3 : (¬ u0 = 0) → v4 < 8)
    (ex1 : c 197 v4 = x1)
    (s5 : (¬ u0 = 0) → -2147483648 ≤ x1 ∧ x1 < 2147483648)
    (s6 : (¬ u0 = 0) → -2147483648 ≤ v2 ∧ v2 < 2147483648)
    (s7 : (¬ u0 = 0) → (¬ x1 = v2) → 0 ≤ v5)
    (s8 : (¬ u0 = 0) → (¬ x1 = v2) → v5 < 6)
    (ex2 : c 204 v5 = x2)
    (s10 : (¬ u0 = 0) → (¬ x1 = v2) → -2147483648 ≤ x2 ∧ x2 < 2147483648)
    (ex3 : c 204 v5 = x3)
    (ex4 : (q_up c 204 v5 (x3 - 1)) 188 34 = x4)
    (ex5 : (q_up c 204 v5 (x3 - 1)) 198 v4 = x5)
    (s14 : (¬ u0 = 0) → (¬ x1 = v2) → (¬ x2 = 0) → -2147483648 ≤ x5 ∧ x5 < 2147483648)
    (k15 : (¬ u0 = 0) → (¬ x1 = v2) → (¬ x2 = 0) → (x5 ≤ 0) → T (d + 1) 233 45 [some (aR 188), some (aI v1), some (aI v2), some (aI v3), some (aI (v4 + 1)), none] [] (G, (q_up (q_up c 204 v5 (x3 - 1)) 188 34 (x4 + 0))) Q)
    (k16 : (¬ u0 = 0) → (¬ x1 = v2) → (¬ x2 = 0) → (0 < x5) → T (d + 1) 233 45 [some (aR 188), some (aI v1), some (aI v2), some (aI v3), some (aI (v4 + 1)), none] [] (G, (q_up (q_up c 204 v5 (x3 - 1)) 188 34 (x4 + 1))) Q)
    (z17 : (¬ u0 = 0) → (¬ x1 = v2) → (x2 = 0) → Q (.inl (some (aI 0))) (G, c))
    (s18 : (¬ u0 = 0) → (x1 = v2) → -2147483648 ≤ v5 ∧ v5 < 2147483648)
    (s19 : (¬ u0 = 0) → (x1 = v2) → -2147483648 ≤ v3 ∧ v3 < 2147483648)
    (z20 : (¬ u0 = 0) → (x1 = v2) → (¬ v5 = v3) → Q (.inl (some (aI 0))) (G, c))
    (s21 : (¬ u0 = 0) → (x1 = v2) → (v5 = v3) → 0 ≤ v5)
    (s22 : (¬ u0 = 0) → (x1 = v2) → (v5 = v3) → v5 < 6)
    (ex6 : c 204 v5 = x6)
    (s24 : (¬ u0 = 0) → (x1 = v2) → (v5 = v3) → -2147483648 ≤ x6 ∧ x6 < 2147483648)
    (ex7 : c 204 v5 = x7)
    (ex8 : (q_up c 204 v5 (x7 - 1)) 188 34 = x8)
    (ex9 : (q_up c 204 v5 (x7 - 1)) 198 v4 = x9)
    (s28 : (¬ u0 = 0) → (x1 = v2) → (v5 = v3) → (¬ x6 = 0) → -2147483648 ≤ x9 ∧ x9 < 2147483648)
    (k29 : (¬ u0 = 0) → (x1 = v2) → (v5 = v3) → (¬ x6 = 0) → (x9 ≤ 0) → T (d + 1) 233 45 [some (aR 188), some (aI v1), some (aI v2), some (aI v3), some (aI (v4 + 1)), none] [] (G, (q_up (q_up c 204 v5 (x7 - 1)) 188 34 (x8 + 0))) Q)
    (k30 : (¬ u0 = 0) → (x1 = v2) → (v5 = v3) → (¬ x6 = 0) → (0 < x9) → T (d + 1) 233 45 [some (aR 188), some (aI v1), some (aI v2), some (aI v3), some (aI (v4 + 1)), none] [] (G, (q_up (q_up c 204 v5 (x7 - 1)) 188 34 (x8 + 1))) Q)
    (z31 : (¬ u0 = 0) → (x1 = v2) → (v5 = v3) → (x6 = 0) → Q (.inl (some (aI 0))) (G, c)) :
    T (d + 1) 233 91 [some (aR 188), some (aI v1), some (aI v2), some (aI v3), some (aI v4), some (aI v5)] [aI u0] (G, c) Q := by
  refine e_eq1 (t := 121) (show decode (mC 233) 91 = .ok (.ifCond .eq 30, 3) by decide +kernel) (by decide) s0 (fun p1 => ?_) (fun p1 => ?_)
  · refine e_P (st' := [aI 0]) (show decode (mC 233) 121 = .ok (.iconst 0, 1) by decide +kernel) rfl rfl rfl ?_
    exact e_zret (show decode (mC 233) 122 = .ok (.ireturn, 1) by decide +kernel) rfl (by decide) (z1 p1)
  · refine e_L (L' := [some (aR 188), some (aI v1), some (aI v2), some (aI v3), some (aI v4), some (aI v5)]) (st' := [aR 188]) (show decode (mC 233) 94 = .ok (.aload_n 0, 1) by decide +kernel) rfl (by show (if 188 = 0 then none else some (_, _)) = _; rw [if_neg (by decide)]) ?_
    refine e_getR (w := 197) (show decode (mC 233) 95 = .ok (.getfield 56, 3) by decide +kernel) (show pl 12 56 = some (0, 12, 24, 0) by decide +kernel) (by decide) (sh_ok hG (by decide +kernel)) (sh_rf hG (by decide +kernel)) ?_
    refine e_L (L' := [some (aR 188), some (aI v1), some (aI v2), some (aI v3), some (aI v4), some (aI v5)]) (st' := [aI v4, aR 197]) (show decode (mC 233) 98 = .ok (.iload 4, 2) by decide +kernel) rfl rfl ?_
    refine e_ialdx (n := 8) (show decode (mC 233) 100 = .ok (.iaload, 1) by decide +kernel) (sh_ok hG (by decide +kernel)) (sh_ln hG (by decide +kernel)) (by decide) (s2 p1) (s3 p1) ex1 ?_
    refine e_L (L' := [some (aR 188), some (aI v1), some (aI v2), some (aI v3), some (aI v4), some (aI v5)]) (st' := [aI v2, aI x1]) (show decode (mC 233) 101 = .ok (.iload_n 2, 1) by decide +kernel) rfl rfl ?_
    refine e_ne2 (t := 111) (show decode (mC 233) 102 = .ok (.if_icmp .ne 9, 3) by decide +kernel) (by decide) (s5 p1) (s6 p1) (fun p2 => ?_) (fun p2 => ?_)
    · refine e_L (L' := [some (aR 188), some (aI v1), some (aI v2), some (aI v3), some (aI v4), some (aI v5)]) (st' := [aR 188]) (show decode (mC 233) 111 = .ok (.aload_n 0, 1) by decide +kernel) rfl (by show (if 188 = 0 then none else some (_, _)) = _; rw [if_neg (by decide)]) ?_
      refine e_getR (w := 204) (show decode (mC 233) 112 = .ok (.getfield 80, 3) by decide +kernel) (show pl 12 80 = some (0, 12, 33, 0) by decide +kernel) (by decide) (sh_ok hG (by decide +kernel)) (sh_rf hG (by decide +kernel)) ?_
      refine e_L (L' := [some (aR 188), some (aI v1), some (aI v2), some (aI v3), some (aI v4), some (aI v5)]) (st' := [aI v5, aR 204]) (show decode (mC 233) 115 = .ok (.iload 5, 2) by decide +kernel) rfl rfl ?_
      refine e_ialdx (n := 6) (show decode (mC 233) 117 = .ok (.iaload, 1) by decide +kernel) (sh_ok hG (by decide +kernel)) (sh_ln hG (by decide +kernel)) (by decide) (s7 p1 p2) (s8 p1 p2) ex2 ?_
      refine e_ne1 (t := 123) (show decode (mC 233) 118 = .ok (.ifCond .ne 5, 3) by decide +kernel) (by decide) (s10 p1 p2) (fun p3 => ?_) (fun p3 => ?_)
      · refine e_L (L' := [some (aR 188), some (aI v1), some (aI v2), some (aI v3), some (aI v4), some (aI v5)]) (st' := [aR 188]) (show decode (mC 233) 123 = .ok (.aload_n 0, 1) by decide +kernel) rfl (by show (if 188 = 0 then none else some (_, _)) = _; rw [if_neg (by decide)]) ?_
        refine e_getR (w := 204) (show decode (mC 233) 124 = .ok (.getfield 80, 3) by decide +kernel) (show pl 12 80 = some (0, 12, 33, 0) by decide +kernel) (by decide) (sh_ok hG (by decide +kernel)) (sh_rf hG (by decide +kernel)) ?_
        refine e_L (L' := [some (aR 188), some (aI v1), some (aI v2), some (aI v3), some (aI v4), some (aI v5)]) (st' := [aI v5, aR 204]) (show decode (mC 233) 127 = .ok (.iload 5, 2) by decide +kernel) rfl rfl ?_
        refine e_P (st' := [aI v5, aR 204, aI v5, aR 204]) (show decode (mC 233) 129 = .ok (.dup2, 1) by decide +kernel) rfl rfl rfl ?_
        refine e_ialdx (n := 6) (show decode (mC 233) 130 = .ok (.iaload, 1) by decide +kernel) (sh_ok hG (by decide +kernel)) (sh_ln hG (by decide +kernel)) (by decide) (s7 p1 p2) (s8 p1 p2) ex3 ?_
        refine e_P (st' := [aI 1, aI x3, aI v5, aR 204]) (show decode (mC 233) 131 = .ok (.iconst 1, 1) by decide +kernel) rfl rfl rfl ?_
        refine e_P (st' := [aI (x3 - 1), aI v5, aR 204]) (show decode (mC 233) 132 = .ok (.isub, 1) by decide +kernel) rfl rfl rfl ?_
        refine e_iast (n := 6) (show decode (mC 233) 133 = .ok (.iastore, 1) by decide +kernel) (sh_ok hG (by decide +kernel)) (sh_ln hG (by decide +kernel)) (by decide) (s7 p1 p2) (s8 p1 p2) ?_
        refine e_L (L' := [some (aR 188), some (aI v1), some (aI v2), some (aI v3), some (aI v4), some (aI v5)]) (st' := [aR 188]) (show decode (mC 233) 134 = .ok (.aload_n 0, 1) by decide +kernel) rfl (by show (if 188 = 0 then none else some (_, _)) = _; rw [if_neg (by decide)]) ?_
        refine e_P (st' := [aR 188, aR 188]) (show decode (mC 233) 135 = .ok (.dup, 1) by decide +kernel) rfl rfl rfl ?_
        refine e_getIx (show decode (mC 233) 136 = .ok (.getfield 335, 3) by decide +kernel) (show pl 12 335 = some (0, 12, 34, 0) by decide +kernel) (by decide) (sh_ok hG (by decide +kernel)) ex4 ?_
        refine e_L (L' := [some (aR 188), some (aI v1), some (aI v2), some (aI v3), some (aI v4), some (aI v5)]) (st' := [aR 188, aI x4, aR 188]) (show decode (mC 233) 139 = .ok (.aload_n 0, 1) by decide +kernel) rfl (by show (if 188 = 0 then none else some (_, _)) = _; rw [if_neg (by decide)]) ?_
        refine e_getR (w := 198) (show decode (mC 233) 140 = .ok (.getfield 59, 3) by decide +kernel) (show pl 12 59 = some (0, 12, 25, 0) by decide +kernel) (by decide) (sh_ok hG (by decide +kernel)) (sh_rf hG (by decide +kernel)) ?_
        refine e_L (L' := [some (aR 188), some (aI v1), some (aI v2), some (aI v3), some (aI v4), some (aI v5)]) (st' := [aI v4, aR 198, aI x4, aR 188]) (show decode (mC 233) 143 = .ok (.iload 4, 2) by decide +kernel) rfl rfl ?_
        refine e_ialdx (n := 8) (show decode (mC 233) 145 = .ok (.iaload, 1) by decide +kernel) (sh_ok hG (by decide +kernel)) (sh_ln hG (by decide +kernel)) (by decide) (s2 p1) (s3 p1) ex5 ?_
        refine e_le1 (t := 153) (show decode (mC 233) 146 = .ok (.ifCond .le 7, 3) by decide +kernel) (by decide) (s14 p1 p2 p3) (fun p4 => ?_) (fun p4 => ?_)
        · refine e_P (st' := [aI 0, aI x4, aR 188]) (show decode (mC 233) 153 = .ok (.iconst 0, 1) by decide +kernel) rfl rfl rfl ?_
          refine e_P (st' := [aI (x4 + 0), aR 188]) (show decode (mC 233) 154 = .ok (.iadd, 1) by decide +kernel) rfl rfl rfl ?_
          refine e_putI (show decode (mC 233) 155 = .ok (.putfield 335, 3) by decide +kernel) (show pl 12 335 = some (0, 12, 34, 0) by decide +kernel) (by decide) (sh_ok hG (by decide +kernel)) ?_
          refine e_L (L' := [some (aR 188), some (aI v1), some (aI v2), some (aI v3), some (aI (v4 + 1)), some (aI v5)]) (st' := []) (show decode (mC 233) 158 = .ok (.iinc 4 1, 3) by decide +kernel) rfl rfl ?_
          refine e_go (t := 45) (show decode (mC 233) 161 = .ok (.goto (-116), 3) by decide +kernel) (by decide) ?_
          exact T_le hQ (leS (leS (leS (leS (leS (leN leE)))))) (k15 p1 p2 p3 p4)
        · refine e_P (st' := [aI 1, aI x4, aR 188]) (show decode (mC 233) 149 = .ok (.iconst 1, 1) by decide +kernel) rfl rfl rfl ?_
          refine e_go (t := 154) (show decode (mC 233) 150 = .ok (.goto 4, 3) by decide +kernel) (by decide) ?_
          refine e_P (st' := [aI (x4 + 1), aR 188]) (show decode (mC 233) 154 = .ok (.iadd, 1) by decide +kernel) rfl rfl rfl ?_
          refine e_putI (show decode (mC 233) 155 = .ok (.putfield 335, 3) by decide +kernel) (show pl 12 335 = some (0, 12, 34, 0) by decide +kernel) (by decide) (sh_ok hG (by decide +kernel)) ?_
          refine e_L (L' := [some (aR 188), some (aI v1), some (aI v2), some (aI v3), some (aI (v4 + 1)), some (aI v5)]) (st' := []) (show decode (mC 233) 158 = .ok (.iinc 4 1, 3) by decide +kernel) rfl rfl ?_
          refine e_go (t := 45) (show decode (mC 233) 161 = .ok (.goto (-116), 3) by decide +kernel) (by decide) ?_
          exact T_le hQ (leS (leS (leS (leS (leS (leN leE)))))) (k16 p1 p2 p3 p4)
      · refine e_P (st' := [aI 0]) (show decode (mC 233) 121 = .ok (.iconst 0, 1) by decide +kernel) rfl rfl rfl ?_
        exact e_zret (show decode (mC 233) 122 = .ok (.ireturn, 1) by decide +kernel) rfl (by decide) (z17 p1 p2 p3)
    · refine e_L (L' := [some (aR 188), some (aI v1), some (aI v2), some (aI v3), some (aI v4), some (aI v5)]) (st' := [aI v5]) (show decode (mC 233) 105 = .ok (.iload 5, 2) by decide +kernel) rfl rfl ?_
      refine e_L (L' := [some (aR 188), some (aI v1), some (aI v2), some (aI v3), some (aI v4), some (aI v5)]) (st' := [aI v3, aI v5]) (show decode (mC 233) 107 = .ok (.iload_n 3, 1) by decide +kernel) rfl rfl ?_
      refine e_ne2 (t := 121) (show decode (mC 233) 108 = .ok (.if_icmp .ne 13, 3) by decide +kernel) (by decide) (s18 p1 p2) (s19 p1 p2) (fun p3 => ?_) (fun p3 => ?_)
      · refine e_P (st' := [aI 0]) (show decode (mC 233) 121 = .ok (.iconst 0, 1) by decide +kernel) rfl rfl rfl ?_
        exact e_zret (show decode (mC 233) 122 = .ok (.ireturn, 1) by decide +kernel) rfl (by decide) (z20 p1 p2 p3)
      · refine e_L (L' := [some (aR 188), some (aI v1), some (aI v2), some (aI v3), some (aI v4), some (aI v5)]) (st' := [aR 188]) (show decode (mC 233) 111 = .ok (.aload_n 0, 1) by decide +kernel) rfl (by show (if 188 = 0 then none else some (_, _)) = _; rw [if_neg (by decide)]) ?_
        refine e_getR (w := 204) (show decode (mC 233) 112 = .ok (.getfield 80, 3) by decide +kernel) (show pl 12 80 = some (0, 12, 33, 0) by decide +kernel) (by decide) (sh_ok hG (by decide +kernel)) (sh_rf hG (by decide +kernel)) ?_
        refine e_L (L' := [some (aR 188), some (aI v1), some (aI v2), some (aI v3), some (aI v4), some (aI v5)]) (st' := [aI v5, aR 204]) (show decode (mC 233) 115 = .ok (.iload 5, 2) by decide +kernel) rfl rfl ?_
        refine e_ialdx (n := 6) (show decode (mC 233) 117 = .ok (.iaload, 1) by decide +kernel) (sh_ok hG (by decide +kernel)) (sh_ln hG (by decide +kernel)) (by decide) (s21 p1 p2 p3) (s22 p1 p2 p3) ex6 ?_
        refine e_ne1 (t := 123) (show decode (mC 233) 118 = .ok (.ifCond .ne 5, 3) by decide +kernel) (by decide) (s24 p1 p2 p3) (fun p4 => ?_) (fun p4 => ?_)
        · refine e_L (L' := [some (aR 188), some (aI v1), some (aI v2), some (aI v3), some (aI v4), some (aI v5)]) (st' := [aR 188]) (show decode (mC 233) 123 = .ok (.aload_n 0, 1) by decide +kernel) rfl (by show (if 188 = 0 then none else some (_, _)) = _; rw [if_neg (by decide)]) ?_
          refine e_getR (w := 204) (show decode (mC 233) 124 = .ok (.getfield 80, 3) by decide +kernel) (show pl 12 80 = some (0, 12, 33, 0) by decide +kernel) (by decide) (sh_ok hG (by decide +kernel)) (sh_rf hG (by decide +kernel)) ?_
          refine e_L (L' := [some (aR 188), some (aI v1), some (aI v2), some (aI v3), some (aI v4), some (aI v5)]) (st' := [aI v5, aR 204]) (show decode (mC 233) 127 = .ok (.iload 5, 2) by decide +kernel) rfl rfl ?_
          refine e_P (st' := [aI v5, aR 204, aI v5, aR 204]) (show decode (mC 233) 129 = .ok (.dup2, 1) by decide +kernel) rfl rfl rfl ?_
          refine e_ialdx (n := 6) (show decode (mC 233) 130 = .ok (.iaload, 1) by decide +kernel) (sh_ok hG (by decide +kernel)) (sh_ln hG (by decide +kernel)) (by decide) (s21 p1 p2 p3) (s22 p1 p2 p3) ex7 ?_
          refine e_P (st' := [aI 1, aI x7, aI v5, aR 204]) (show decode (mC 233) 131 = .ok (.iconst 1, 1) by decide +kernel) rfl rfl rfl ?_
          refine e_P (st' := [aI (x7 - 1), aI v5, aR 204]) (show decode (mC 233) 132 = .ok (.isub, 1) by decide +kernel) rfl rfl rfl ?_
          refine e_iast (n := 6) (show decode (mC 233) 133 = .ok (.iastore, 1) by decide +kernel) (sh_ok hG (by decide +kernel)) (sh_ln hG (by decide +kernel)) (by decide) (s21 p1 p2 p3) (s22 p1 p2 p3) ?_
          refine e_L (L' := [some (aR 188), some (aI v1), some (aI v2), some (aI v3), some (aI v4), some (aI v5)]) (st' := [aR 188]) (show decode (mC 233) 134 = .ok (.aload_n 0, 1) by decide +kernel) rfl (by show (if 188 = 0 then none else some (_, _)) = _; rw [if_neg (by decide)]) ?_
          refine e_P (st' := [aR 188, aR 188]) (show decode (mC 233) 135 = .ok (.dup, 1) by decide +kernel) rfl rfl rfl ?_
          refine e_getIx (show decode (mC 233) 136 = .ok (.getfield 335, 3) by decide +kernel) (show pl 12 335 = some (0, 12, 34, 0) by decide +kernel) (by decide) (sh_ok hG (by decide +kernel)) ex8 ?_
          refine e_L (L' := [some (aR 188), some (aI v1), some (aI v2), some (aI v3), some (aI v4), some (aI v5)]) (st' := [aR 188, aI x8, aR 188]) (show decode (mC 233) 139 = .ok (.aload_n 0, 1) by decide +kernel) rfl (by show (if 188 = 0 then none else some (_, _)) = _; rw [if_neg (by decide)]) ?_
          refine e_getR (w := 198) (show decode (mC 233) 140 = .ok (.getfield 59, 3) by decide +kernel) (show pl 12 59 = some (0, 12, 25, 0) by decide +kernel) (by decide) (sh_ok hG (by decide +kernel)) (sh_rf hG (by decide +kernel)) ?_
          refine e_L (L' := [some (aR 188), some (aI v1), some (aI v2), some (aI v3), some (aI v4), some (aI v5)]) (st' := [aI v4, aR 198, aI x8, aR 188]) (show decode (mC 233) 143 = .ok (.iload 4, 2) by decide +kernel) rfl rfl ?_
          refine e_ialdx (n := 8) (show decode (mC 233) 145 = .ok (.iaload, 1) by decide +kernel) (sh_ok hG (by decide +kernel)) (sh_ln hG (by decide +kernel)) (by decide) (s2 p1) (s3 p1) ex9 ?_
          refine e_le1 (t := 153) (show decode (mC 233) 146 = .ok (.ifCond .le 7, 3) by decide +kernel) (by decide) (s28 p1 p2 p3 p4) (fun p5 => ?_) (fun p5 => ?_)
          · refine e_P (st' := [aI 0, aI x8, aR 188]) (show decode (mC 233) 153 = .ok (.iconst 0, 1) by decide +kernel) rfl rfl rfl ?_
            refine e_P (st' := [aI (x8 + 0), aR 188]) (show decode (mC 233) 154 = .ok (.iadd, 1) by decide +kernel) rfl rfl rfl ?_
            refine e_putI (show decode (mC 233) 155 = .ok (.putfield 335, 3) by decide +kernel) (show pl 12 335 = some (0, 12, 34, 0) by decide +kernel) (by decide) (sh_ok hG (by decide +kernel)) ?_
            refine e_L (L' := [some (aR 188), some (aI v1), some (aI v2), some (aI v3), some (aI (v4 + 1)), some (aI v5)]) (st' := []) (show decode (mC 233) 158 = .ok (.iinc 4 1, 3) by decide +kernel) rfl rfl ?_
            refine e_go (t := 45) (show decode (mC 233) 161 = .ok (.goto (-116), 3) by decide +kernel) (by decide) ?_
            exact T_le hQ (leS (leS (leS (leS (leS (leN leE)))))) (k29 p1 p2 p3 p4 p5)
          · refine e_P (st' := [aI 1, aI x8, aR 188]) (show decode (mC 233) 149 = .ok (.iconst 1, 1) by decide +kernel) rfl rfl rfl ?_
            refine e_go (t := 154) (show decode (mC 233) 150 = .ok (.goto 4, 3) by decide +kernel) (by decide) ?_
            refine e_P (st' := [aI (x8 + 1), aR 188]) (show decode (mC 233) 154 = .ok (.iadd, 1) by decide +kernel) rfl rfl rfl ?_
            refine e_putI (show decode (mC 233) 155 = .ok (.putfield 335, 3) by decide +kernel) (show pl 12 335 = some (0, 12, 34, 0) by decide +kernel) (by decide) (sh_ok hG (by decide +kernel)) ?_
            refine e_L (L' := [some (aR 188), some (aI v1), some (aI v2), some (aI v3), some (aI (v4 + 1)), some (aI v5)]) (st' := []) (show decode (mC 233) 158 = .ok (.iinc 4 1, 3) by decide +kernel) rfl rfl ?_
            refine e_go (t := 45) (show decode (mC 233) 161 = .ok (.goto (-116), 3) by decide +kernel) (by decide) ?_
            exact T_le hQ (leS (leS (leS (leS (leS (leN leE)))))) (k30 p1 p2 p3 p4 p5)
        · refine e_P (st' := [aI 0]) (show decode (mC 233) 121 = .ok (.iconst 0, 1) by decide +kernel) rfl rfl rfl ?_
          exact e_zret (show decode (mC 233) 122 = .ok (.ireturn, 1) by decide +kernel) rfl (by decide) (z31 p1 p2 p3 p4)
end QB29
