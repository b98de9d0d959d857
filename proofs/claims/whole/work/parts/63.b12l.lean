section QB33
variable {d : Nat} {G : GG} {c : CC} {Q : OO → HH → Prop}
/-- SoulOfficeModel.operand()Z, from 7 -/
theorem b256_7 (hG : Shp G) {u0 : Int}
    (m0 : TM d 175 [aR 188, aI 40] (G, c) (fun r h' => T (d + 1) 256 14 [some (aR 188), some (aI u0), none, none, none] (r.toList ++ []) h' Q)) :
    T (d + 1) 256 7 [some (aR 188), none, none, none, none] [aI u0] (G, c) Q := by
  refine e_L (L' := [some (aR 188), some (aI u0), none, none, none]) (st' := []) (show decode (mC 256) 7 = .ok (.istore_n 1, 1) by decide +kernel) rfl rfl ?_
  refine e_L (L' := [some (aR 188), some (aI u0), none, none, none]) (st' := [aR 188]) (show decode (mC 256) 8 = .ok (.aload_n 0, 1) by decide +kernel) rfl (by show (if 188 = 0 then none else some (_, _)) = _; rw [if_neg (by decide)]) ?_
  refine e_P (st' := [aI 40, aR 188]) (show decode (mC 256) 9 = .ok (.bipush 40, 2) by decide +kernel) rfl rfl rfl ?_
  exact e_V (as := [aR 188, aI 40]) (rest := []) (show decode (mC 256) 11 = .ok (.invokevirtual 175, 3) by decide +kernel) (by decide +kernel) (show (decide ((2 : Nat) = mA 175) && decide (175 < q_law)) = true by decide +kernel) rfl (show (0 : Nat) ≤ 8 by decide) (show (2 : Nat) ≤ mL 175 by decide +kernel) rfl (sh_ok hG (by decide +kernel)) m0
/-- SoulOfficeModel.operand()Z, from 14 -/
theorem b256_14 (hG : Shp G) {v1 u0 : Int}
    (m0 : TM d 255 [aR 188] (G, c) (fun r h' => T (d + 1) 256 19 [some (aR 188), some (aI v1), some (aI u0), none, none] (r.toList ++ []) h' Q)) :
    T (d + 1) 256 14 [some (aR 188), some (aI v1), none, none, none] [aI u0] (G, c) Q := by
  refine e_L (L' := [some (aR 188), some (aI v1), some (aI u0), none, none]) (st' := []) (show decode (mC 256) 14 = .ok (.istore_n 2, 1) by decide +kernel) rfl rfl ?_
  refine e_L (L' := [some (aR 188), some (aI v1), some (aI u0), none, none]) (st' := [aR 188]) (show decode (mC 256) 15 = .ok (.aload_n 0, 1) by decide +kernel) rfl (by show (if 188 = 0 then none else some (_, _)) = _; rw [if_neg (by decide)]) ?_
  exact e_V (as := [aR 188]) (rest := []) (show decode (mC 256) 16 = .ok (.invokevirtual 391, 3) by decide +kernel) (by decide +kernel) (show (decide ((1 : Nat) = mA 255) && decide (255 < q_law)) = true by decide +kernel) rfl (show (0 : Nat) ≤ 8 by decide) (show (1 : Nat) ≤ mL 255 by decide +kernel) rfl (sh_ok hG (by decide +kernel)) m0
/-- SoulOfficeModel.operand()Z, from 19 -/
theorem b256_19 (hG : Shp G) {v1 v2 u0 x1 x2 x3 x4 x5 x6 x7 x8 x9 : Int} (hQ : ∀ o o' h', q_eqo o o' → Q o h' → Q o' h')
    (s0 : -2147483648 ≤ v1 ∧ v1 < 2147483648)
    (ex1 : c 188 41 = x1)
    (s2 : (¬ v1 = 0) → -2147483648 ≤ x1 ∧ x1 < 2147483648)
    (m3 : (¬ v1 = 0) → (x1 = 20) → TM d 173 [aR 188, aI 4] (G, c) (fun r h' => T (d + 1) 256 61 [none, none, none, none, none] (r.toList ++ []) h' Q))
    (ex2 : c 188 43 = x2)
    (s5 : (¬ v1 = 0) → (¬ x1 = 20) → -2147483648 ≤ x2 ∧ x2 < 2147483648)
    (ex3 : c 188 41 = x3)
    (m7 : (¬ v1 = 0) → (¬ x1 = 20) → (x2 ≤ 8) → TM d 172 [aR 188] (G, (q_up c 188 41 (x3 + 1))) (fun r h' => T (d + 1) 256 76 [some (aR 188), some (aI v1), some (aI v2), some (aI u0), none] (r.toList ++ []) h' Q))
    (m8 : (¬ v1 = 0) → (¬ x1 = 20) → (8 < x2) → TM d 173 [aR 188, aI 4] (G, c) (fun r h' => T (d + 1) 256 61 [none, none, none, none, none] (r.toList ++ []) h' Q))
    (s9 : (v1 = 0) → -2147483648 ≤ v2 ∧ v2 < 2147483648)
    (ex4 : c 188 41 = x4)
    (s11 : (v1 = 0) → (¬ v2 = 0) → -2147483648 ≤ x4 ∧ x4 < 2147483648)
    (m12 : (v1 = 0) → (¬ v2 = 0) → (x4 = 20) → TM d 173 [aR 188, aI 4] (G, c) (fun r h' => T (d + 1) 256 61 [none, none, none, none, none] (r.toList ++ []) h' Q))
    (ex5 : c 188 43 = x5)
    (s14 : (v1 = 0) → (¬ v2 = 0) → (¬ x4 = 20) → -2147483648 ≤ x5 ∧ x5 < 2147483648)
    (ex6 : c 188 41 = x6)
    (m16 : (v1 = 0) → (¬ v2 = 0) → (¬ x4 = 20) → (x5 ≤ 8) → TM d 172 [aR 188] (G, (q_up c 188 41 (x6 + 1))) (fun r h' => T (d + 1) 256 76 [some (aR 188), some (aI v1), some (aI v2), some (aI u0), none] (r.toList ++ []) h' Q))
    (m17 : (v1 = 0) → (¬ v2 = 0) → (¬ x4 = 20) → (8 < x5) → TM d 173 [aR 188, aI 4] (G, c) (fun r h' => T (d + 1) 256 61 [none, none, none, none, none] (r.toList ++ []) h' Q))
    (s18 : (v1 = 0) → (v2 = 0) → -2147483648 ≤ u0 ∧ u0 < 2147483648)
    (ex7 : c 188 41 = x7)
    (s20 : (v1 = 0) → (v2 = 0) → (0 ≤ u0) → -2147483648 ≤ x7 ∧ x7 < 2147483648)
    (m21 : (v1 = 0) → (v2 = 0) → (0 ≤ u0) → (x7 = 20) → TM d 173 [aR 188, aI 4] (G, c) (fun r h' => T (d + 1) 256 61 [none, none, none, none, none] (r.toList ++ []) h' Q))
    (ex8 : c 188 43 = x8)
    (s23 : (v1 = 0) → (v2 = 0) → (0 ≤ u0) → (¬ x7 = 20) → -2147483648 ≤ x8 ∧ x8 < 2147483648)
    (ex9 : c 188 41 = x9)
    (m25 : (v1 = 0) → (v2 = 0) → (0 ≤ u0) → (¬ x7 = 20) → (x8 ≤ 8) → TM d 172 [aR 188] (G, (q_up c 188 41 (x9 + 1))) (fun r h' => T (d + 1) 256 76 [some (aR 188), some (aI v1), some (aI v2), some (aI u0), none] (r.toList ++ []) h' Q))
    (m26 : (v1 = 0) → (v2 = 0) → (0 ≤ u0) → (¬ x7 = 20) → (8 < x8) → TM d 173 [aR 188, aI 4] (G, c) (fun r h' => T (d + 1) 256 61 [none, none, none, none, none] (r.toList ++ []) h' Q))
    (m27 : (v1 = 0) → (v2 = 0) → (u0 < 0) → TM d 173 [aR 188, aI 1] (G, c) (fun r h' => T (d + 1) 256 37 [none, none, none, none, none] (r.toList ++ []) h' Q)) :
    T (d + 1) 256 19 [some (aR 188), some (aI v1), some (aI v2), none, none] [aI u0] (G, c) Q := by
  refine e_L (L' := [some (aR 188), some (aI v1), some (aI v2), some (aI u0), none]) (st' := []) (show decode (mC 256) 19 = .ok (.istore_n 3, 1) by decide +kernel) rfl rfl ?_
  refine e_L (L' := [some (aR 188), some (aI v1), some (aI v2), some (aI u0), none]) (st' := [aI v1]) (show decode (mC 256) 20 = .ok (.iload_n 1, 1) by decide +kernel) rfl rfl ?_
  refine e_ne1 (t := 38) (show decode (mC 256) 21 = .ok (.ifCond .ne 17, 3) by decide +kernel) (by decide) s0 (fun p1 => ?_) (fun p1 => ?_)
  · refine e_L (L' := [some (aR 188), some (aI v1), some (aI v2), some (aI u0), none]) (st' := [aR 188]) (show decode (mC 256) 38 = .ok (.aload_n 0, 1) by decide +kernel) rfl (by show (if 188 = 0 then none else some (_, _)) = _; rw [if_neg (by decide)]) ?_
    refine e_getIx (show decode (mC 256) 39 = .ok (.getfield 394, 3) by decide +kernel) (show pl 12 394 = some (0, 12, 41, 0) by decide +kernel) (by decide) (sh_ok hG (by decide +kernel)) ex1 ?_
    refine e_P (st' := [aI 20, aI x1]) (show decode (mC 256) 42 = .ok (.bipush 20, 2) by decide +kernel) rfl rfl rfl ?_
    refine e_eq2 (t := 56) (show decode (mC 256) 44 = .ok (.if_icmp .eq 12, 3) by decide +kernel) (by decide) (s2 p1) (by decide) (fun p2 => ?_) (fun p2 => ?_)
    · refine e_L (L' := [some (aR 188), some (aI v1), some (aI v2), some (aI u0), none]) (st' := [aR 188]) (show decode (mC 256) 56 = .ok (.aload_n 0, 1) by decide +kernel) rfl (by show (if 188 = 0 then none else some (_, _)) = _; rw [if_neg (by decide)]) ?_
      refine e_P (st' := [aI 4, aR 188]) (show decode (mC 256) 57 = .ok (.iconst 4, 1) by decide +kernel) rfl rfl rfl ?_
      exact e_V (as := [aR 188, aI 4]) (rest := []) (show decode (mC 256) 58 = .ok (.invokevirtual 178, 3) by decide +kernel) (by decide +kernel) (show (decide ((2 : Nat) = mA 173) && decide (173 < q_law)) = true by decide +kernel) rfl (show (0 : Nat) ≤ 8 by decide) (show (2 : Nat) ≤ mL 173 by decide +kernel) rfl (sh_ok hG (by decide +kernel)) (tm_le hQ (leN (leN (leN (leN (leS leE))))) (m3 p1 p2))
    · refine e_L (L' := [some (aR 188), some (aI v1), some (aI v2), some (aI u0), none]) (st' := [aR 188]) (show decode (mC 256) 47 = .ok (.aload_n 0, 1) by decide +kernel) rfl (by show (if 188 = 0 then none else some (_, _)) = _; rw [if_neg (by decide)]) ?_
      refine e_getIx (show decode (mC 256) 48 = .ok (.getfield 388, 3) by decide +kernel) (show pl 12 388 = some (0, 12, 43, 0) by decide +kernel) (by decide) (sh_ok hG (by decide +kernel)) ex2 ?_
      refine e_P (st' := [aI 8, aI x2]) (show decode (mC 256) 51 = .ok (.bipush 8, 2) by decide +kernel) rfl rfl rfl ?_
      refine e_le2 (t := 62) (show decode (mC 256) 53 = .ok (.if_icmp .le 9, 3) by decide +kernel) (by decide) (s5 p1 p2) (by decide) (fun p3 => ?_) (fun p3 => ?_)
      · refine e_L (L' := [some (aR 188), some (aI v1), some (aI v2), some (aI u0), none]) (st' := [aR 188]) (show decode (mC 256) 62 = .ok (.aload_n 0, 1) by decide +kernel) rfl (by show (if 188 = 0 then none else some (_, _)) = _; rw [if_neg (by decide)]) ?_
        refine e_P (st' := [aR 188, aR 188]) (show decode (mC 256) 63 = .ok (.dup, 1) by decide +kernel) rfl rfl rfl ?_
        refine e_getIx (show decode (mC 256) 64 = .ok (.getfield 394, 3) by decide +kernel) (show pl 12 394 = some (0, 12, 41, 0) by decide +kernel) (by decide) (sh_ok hG (by decide +kernel)) ex3 ?_
        refine e_P (st' := [aI 1, aI x3, aR 188]) (show decode (mC 256) 67 = .ok (.iconst 1, 1) by decide +kernel) rfl rfl rfl ?_
        refine e_P (st' := [aI (x3 + 1), aR 188]) (show decode (mC 256) 68 = .ok (.iadd, 1) by decide +kernel) rfl rfl rfl ?_
        refine e_putI (show decode (mC 256) 69 = .ok (.putfield 394, 3) by decide +kernel) (show pl 12 394 = some (0, 12, 41, 0) by decide +kernel) (by decide) (sh_ok hG (by decide +kernel)) ?_
        refine e_L (L' := [some (aR 188), some (aI v1), some (aI v2), some (aI u0), none]) (st' := [aR 188]) (show decode (mC 256) 72 = .ok (.aload_n 0, 1) by decide +kernel) rfl (by show (if 188 = 0 then none else some (_, _)) = _; rw [if_neg (by decide)]) ?_
        exact e_V (as := [aR 188]) (rest := []) (show decode (mC 256) 73 = .ok (.invokevirtual 181, 3) by decide +kernel) (by decide +kernel) (show (decide ((1 : Nat) = mA 172) && decide (172 < q_law)) = true by decide +kernel) rfl (show (0 : Nat) ≤ 8 by decide) (show (1 : Nat) ≤ mL 172 by decide +kernel) rfl (sh_ok hG (by decide +kernel)) (m7 p1 p2 p3)
      · refine e_L (L' := [some (aR 188), some (aI v1), some (aI v2), some (aI u0), none]) (st' := [aR 188]) (show decode (mC 256) 56 = .ok (.aload_n 0, 1) by decide +kernel) rfl (by show (if 188 = 0 then none else some (_, _)) = _; rw [if_neg (by decide)]) ?_
        refine e_P (st' := [aI 4, aR 188]) (show decode (mC 256) 57 = .ok (.iconst 4, 1) by decide +kernel) rfl rfl rfl ?_
        exact e_V (as := [aR 188, aI 4]) (rest := []) (show decode (mC 256) 58 = .ok (.invokevirtual 178, 3) by decide +kernel) (by decide +kernel) (show (decide ((2 : Nat) = mA 173) && decide (173 < q_law)) = true by decide +kernel) rfl (show (0 : Nat) ≤ 8 by decide) (show (2 : Nat) ≤ mL 173 by decide +kernel) rfl (sh_ok hG (by decide +kernel)) (tm_le hQ (leN (leN (leN (leN (leS leE))))) (m8 p1 p2 p3))
  · refine e_L (L' := [some (aR 188), some (aI v1), some (aI v2), some (aI u0), none]) (st' := [aI v2]) (show decode (mC 256) 24 = .ok (.iload_n 2, 1) by decide +kernel) rfl rfl ?_
    refine e_ne1 (t := 38) (show decode (mC 256) 25 = .ok (.ifCond .ne 13, 3) by decide +kernel) (by decide) (s9 p1) (fun p2 => ?_) (fun p2 => ?_)
    · refine e_L (L' := [some (aR 188), some (aI v1), some (aI v2), some (aI u0), none]) (st' := [aR 188]) (show decode (mC 256) 38 = .ok (.aload_n 0, 1) by decide +kernel) rfl (by show (if 188 = 0 then none else some (_, _)) = _; rw [if_neg (by decide)]) ?_
      refine e_getIx (show decode (mC 256) 39 = .ok (.getfield 394, 3) by decide +kernel) (show pl 12 394 = some (0, 12, 41, 0) by decide +kernel) (by decide) (sh_ok hG (by decide +kernel)) ex4 ?_
      refine e_P (st' := [aI 20, aI x4]) (show decode (mC 256) 42 = .ok (.bipush 20, 2) by decide +kernel) rfl rfl rfl ?_
      refine e_eq2 (t := 56) (show decode (mC 256) 44 = .ok (.if_icmp .eq 12, 3) by decide +kernel) (by decide) (s11 p1 p2) (by decide) (fun p3 => ?_) (fun p3 => ?_)
      · refine e_L (L' := [some (aR 188), some (aI v1), some (aI v2), some (aI u0), none]) (st' := [aR 188]) (show decode (mC 256) 56 = .ok (.aload_n 0, 1) by decide +kernel) rfl (by show (if 188 = 0 then none else some (_, _)) = _; rw [if_neg (by decide)]) ?_
        refine e_P (st' := [aI 4, aR 188]) (show decode (mC 256) 57 = .ok (.iconst 4, 1) by decide +kernel) rfl rfl rfl ?_
        exact e_V (as := [aR 188, aI 4]) (rest := []) (show decode (mC 256) 58 = .ok (.invokevirtual 178, 3) by decide +kernel) (by decide +kernel) (show (decide ((2 : Nat) = mA 173) && decide (173 < q_law)) = true by decide +kernel) rfl (show (0 : Nat) ≤ 8 by decide) (show (2 : Nat) ≤ mL 173 by decide +kernel) rfl (sh_ok hG (by decide +kernel)) (tm_le hQ (leN (leN (leN (leN (leS leE))))) (m12 p1 p2 p3))
      · refine e_L (L' := [some (aR 188), some (aI v1), some (aI v2), some (aI u0), none]) (st' := [aR 188]) (show decode (mC 256) 47 = .ok (.aload_n 0, 1) by decide +kernel) rfl (by show (if 188 = 0 then none else some (_, _)) = _; rw [if_neg (by decide)]) ?_
        refine e_getIx (show decode (mC 256) 48 = .ok (.getfield 388, 3) by decide +kernel) (show pl 12 388 = some (0, 12, 43, 0) by decide +kernel) (by decide) (sh_ok hG (by decide +kernel)) ex5 ?_
        refine e_P (st' := [aI 8, aI x5]) (show decode (mC 256) 51 = .ok (.bipush 8, 2) by decide +kernel) rfl rfl rfl ?_
        refine e_le2 (t := 62) (show decode (mC 256) 53 = .ok (.if_icmp .le 9, 3) by decide +kernel) (by decide) (s14 p1 p2 p3) (by decide) (fun p4 => ?_) (fun p4 => ?_)
        · refine e_L (L' := [some (aR 188), some (aI v1), some (aI v2), some (aI u0), none]) (st' := [aR 188]) (show decode (mC 256) 62 = .ok (.aload_n 0, 1) by decide +kernel) rfl (by show (if 188 = 0 then none else some (_, _)) = _; rw [if_neg (by decide)]) ?_
          refine e_P (st' := [aR 188, aR 188]) (show decode (mC 256) 63 = .ok (.dup, 1) by decide +kernel) rfl rfl rfl ?_
          refine e_getIx (show decode (mC 256) 64 = .ok (.getfield 394, 3) by decide +kernel) (show pl 12 394 = some (0, 12, 41, 0) by decide +kernel) (by decide) (sh_ok hG (by decide +kernel)) ex6 ?_
          refine e_P (st' := [aI 1, aI x6, aR 188]) (show decode (mC 256) 67 = .ok (.iconst 1, 1) by decide +kernel) rfl rfl rfl ?_
          refine e_P (st' := [aI (x6 + 1), aR 188]) (show decode (mC 256) 68 = .ok (.iadd, 1) by decide +kernel) rfl rfl rfl ?_
          refine e_putI (show decode (mC 256) 69 = .ok (.putfield 394, 3) by decide +kernel) (show pl 12 394 = some (0, 12, 41, 0) by decide +kernel) (by decide) (sh_ok hG (by decide +kernel)) ?_
          refine e_L (L' := [some (aR 188), some (aI v1), some (aI v2), some (aI u0), none]) (st' := [aR 188]) (show decode (mC 256) 72 = .ok (.aload_n 0, 1) by decide +kernel) rfl (by show (if 188 = 0 then none else some (_, _)) = _; rw [if_neg (by decide)]) ?_
          exact e_V (as := [aR 188]) (rest := []) (show decode (mC 256) 73 = .ok (.invokevirtual 181, 3) by decide +kernel) (by decide +kernel) (show (decide ((1 : Nat) = mA 172) && decide (172 < q_law)) = true by decide +kernel) rfl (show (0 : Nat) ≤ 8 by decide) (show (1 : Nat) ≤ mL 172 by decide +kernel) rfl (sh_ok hG (by decide +kernel)) (m16 p1 p2 p3 p4)
        · refine e_L (L' := [some (aR 188), some (aI v1), some (aI v2), some (aI u0), none]) (st' := [aR 188]) (show decode (mC 256) 56 = .ok (.aload_n 0, 1) by decide +kernel) rfl (by show (if 188 = 0 then none else some (_, _)) = _; rw [if_neg (by decide)]) ?_
          refine e_P (st' := [aI 4, aR 188]) (show decode (mC 256) 57 = .ok (.iconst 4, 1) by decide +kernel) rfl rfl rfl ?_
          exact e_V (as := [aR 188, aI 4]) (rest := []) (show decode (mC 256) 58 = .ok (.invokevirtual 178, 3) by decide +kernel) (by decide +kernel) (show (decide ((2 : Nat) = mA 173) && decide (173 < q_law)) = true by decide +kernel) rfl (show (0 : Nat) ≤ 8 by decide) (show (2 : Nat) ≤ mL 173 by decide +kernel) rfl (sh_ok hG (by decide +kernel)) (tm_le hQ (leN (leN (leN (leN (leS leE))))) (m17 p1 p2 p3 p4))
    · refine e_L (L' := [some (aR 188), some (aI v1), some (aI v2), some (aI u0), none]) (st' := [aI u0]) (show decode (mC 256) 28 = .ok (.iload_n 3, 1) by decide +kernel) rfl rfl ?_
      refine e_ge1 (t := 38) (show decode (mC 256) 29 = .ok (.ifCond .ge 9, 3) by decide +kernel) (by decide) (s18 p1 p2) (fun p3 => ?_) (fun p3 => ?_)
      · refine e_L (L' := [some (aR 188), some (aI v1), some (aI v2), some (aI u0), none]) (st' := [aR 188]) (show decode (mC 256) 38 = .ok (.aload_n 0, 1) by decide +kernel) rfl (by show (if 188 = 0 then none else some (_, _)) = _; rw [if_neg (by decide)]) ?_
        refine e_getIx (show decode (mC 256) 39 = .ok (.getfield 394, 3) by decide +kernel) (show pl 12 394 = some (0, 12, 41, 0) by decide +kernel) (by decide) (sh_ok hG (by decide +kernel)) ex7 ?_
        refine e_P (st' := [aI 20, aI x7]) (show decode (mC 256) 42 = .ok (.bipush 20, 2) by decide +kernel) rfl rfl rfl ?_
        refine e_eq2 (t := 56) (show decode (mC 256) 44 = .ok (.if_icmp .eq 12, 3) by decide +kernel) (by decide) (s20 p1 p2 p3) (by decide) (fun p4 => ?_) (fun p4 => ?_)
        · refine e_L (L' := [some (aR 188), some (aI v1), some (aI v2), some (aI u0), none]) (st' := [aR 188]) (show decode (mC 256) 56 = .ok (.aload_n 0, 1) by decide +kernel) rfl (by show (if 188 = 0 then none else some (_, _)) = _; rw [if_neg (by decide)]) ?_
          refine e_P (st' := [aI 4, aR 188]) (show decode (mC 256) 57 = .ok (.iconst 4, 1) by decide +kernel) rfl rfl rfl ?_
          exact e_V (as := [aR 188, aI 4]) (rest := []) (show decode (mC 256) 58 = .ok (.invokevirtual 178, 3) by decide +kernel) (by decide +kernel) (show (decide ((2 : Nat) = mA 173) && decide (173 < q_law)) = true by decide +kernel) rfl (show (0 : Nat) ≤ 8 by decide) (show (2 : Nat) ≤ mL 173 by decide +kernel) rfl (sh_ok hG (by decide +kernel)) (tm_le hQ (leN (leN (leN (leN (leS leE))))) (m21 p1 p2 p3 p4))
        · refine e_L (L' := [some (aR 188), some (aI v1), some (aI v2), some (aI u0), none]) (st' := [aR 188]) (show decode (mC 256) 47 = .ok (.aload_n 0, 1) by decide +kernel) rfl (by show (if 188 = 0 then none else some (_, _)) = _; rw [if_neg (by decide)]) ?_
          refine e_getIx (show decode (mC 256) 48 = .ok (.getfield 388, 3) by decide +kernel) (show pl 12 388 = some (0, 12, 43, 0) by decide +kernel) (by decide) (sh_ok hG (by decide +kernel)) ex8 ?_
          refine e_P (st' := [aI 8, aI x8]) (show decode (mC 256) 51 = .ok (.bipush 8, 2) by decide +kernel) rfl rfl rfl ?_
          refine e_le2 (t := 62) (show decode (mC 256) 53 = .ok (.if_icmp .le 9, 3) by decide +kernel) (by decide) (s23 p1 p2 p3 p4) (by decide) (fun p5 => ?_) (fun p5 => ?_)
          · refine e_L (L' := [some (aR 188), some (aI v1), some (aI v2), some (aI u0), none]) (st' := [aR 188]) (show decode (mC 256) 62 = .ok (.aload_n 0, 1) by decide +kernel) rfl (by show (if 188 = 0 then none else some (_, _)) = _; rw [if_neg (by decide)]) ?_
            refine e_P (st' := [aR 188, aR 188]) (show decode (mC 256) 63 = .ok (.dup, 1) by decide +kernel) rfl rfl rfl ?_
            refine e_getIx (show decode (mC 256) 64 = .ok (.getfield 394, 3) by decide +kernel) (show pl 12 394 = some (0, 12, 41, 0) by decide +kernel) (by decide) (sh_ok hG (by decide +kernel)) ex9 ?_
            refine e_P (st' := [aI 1, aI x9, aR 188]) (show decode (mC 256) 67 = .ok (.iconst 1, 1) by decide +kernel) rfl rfl rfl ?_
            refine e_P (st' := [aI (x9 + 1), aR 188]) (show decode (mC 256) 68 = .ok (.iadd, 1) by decide +kernel) rfl rfl rfl ?_
            refine e_putI (show decode (mC 256) 69 = .ok (.putfield 394, 3) by decide +kernel) (show pl 12 394 = some (0, 12, 41, 0) by decide +kernel) (by decide) (sh_ok hG (by decide +kernel)) ?_
            refine e_L (L' := [some (aR 188), some (aI v1), some (aI v2), some (aI u0), none]) (st' := [aR 188]) (show decode (mC 256) 72 = .ok (.aload_n 0, 1) by decide +kernel) rfl (by show (if 188 = 0 then none else some (_, _)) = _; rw [if_neg (by decide)]) ?_
            exact e_V (as := [aR 188]) (rest := []) (show decode (mC 256) 73 = .ok (.invokevirtual 181, 3) by decide +kernel) (by decide +kernel) (show (decide ((1 : Nat) = mA 172) && decide (172 < q_law)) = true by decide +kernel) rfl (show (0 : Nat) ≤ 8 by decide) (show (1 : Nat) ≤ mL 172 by decide +kernel) rfl (sh_ok hG (by decide +kernel)) (m25 p1 p2 p3 p4 p5)
          · refine e_L (L' := [some (aR 188), some (aI v1), some (aI v2), some (aI u0), none]) (st' := [aR 188]) (show decode (mC 256) 56 = .ok (.aload_n 0, 1) by decide +kernel) rfl (by show (if 188 = 0 then none else some (_, _)) = _; rw [if_neg (by decide)]) ?_
            refine e_P (st' := [aI 4, aR 188]) (show decode (mC 256) 57 = .ok (.iconst 4, 1) by decide +kernel) rfl rfl rfl ?_
            exact e_V (as := [aR 188, aI 4]) (rest := []) (show decode (mC 256) 58 = .ok (.invokevirtual 178, 3) by decide +kernel) (by decide +kernel) (show (decide ((2 : Nat) = mA 173) && decide (173 < q_law)) = true by decide +kernel) rfl (show (0 : Nat) ≤ 8 by decide) (show (2 : Nat) ≤ mL 173 by decide +kernel) rfl (sh_ok hG (by decide +kernel)) (tm_le hQ (leN (leN (leN (leN (leS leE))))) (m26 p1 p2 p3 p4 p5))
      · refine e_L (L' := [some (aR 188), some (aI v1), some (aI v2), some (aI u0), none]) (st' := [aR 188]) (show decode (mC 256) 32 = .ok (.aload_n 0, 1) by decide +kernel) rfl (by show (if 188 = 0 then none else some (_, _)) = _; rw [if_neg (by decide)]) ?_
        refine e_P (st' := [aI 1, aR 188]) (show decode (mC 256) 33 = .ok (.iconst 1, 1) by decide +kernel) rfl rfl rfl ?_
        exact e_V (as := [aR 188, aI 1]) (rest := []) (show decode (mC 256) 34 = .ok (.invokevirtual 178, 3) by decide +kernel) (by decide +kernel) (show (decide ((2 : Nat) = mA 173) && decide (173 < q_law)) = true by decide +kernel) rfl (show (0 : Nat) ≤ 8 by decide) (show (2 : Nat) ≤ mL 173 by decide +kernel) rfl (sh_ok hG (by decide +kernel)) (tm_le hQ (leN (leN (leN (leN (leS leE))))) (m27 p1 p2 p3))
/-- SoulOfficeModel.operand()Z, from 37 -/
theorem b256_37 (hG : Shp G) {u0 : Int}
    (s0 : u0 = 0 ∨ u0 = 1)
    (z1 : Q (.inl (some (aI u0))) (G, c)) :
    T (d + 1) 256 37 [none, none, none, none, none] [aI u0] (G, c) Q := by
  exact e_zret (show decode (mC 256) 37 = .ok (.ireturn, 1) by decide +kernel) rfl s0 z1
/-- SoulOfficeModel.operand()Z, from 61 -/
theorem b256_61 (hG : Shp G) {u0 : Int}
    (s0 : u0 = 0 ∨ u0 = 1)
    (z1 : Q (.inl (some (aI u0))) (G, c)) :
    T (d + 1) 256 61 [none, none, none, none, none] [aI u0] (G, c) Q := by
  exact e_zret (show decode (mC 256) 61 = .ok (.ireturn, 1) by decide +kernel) rfl s0 z1
/-- SoulOfficeModel.operand()Z, from 76 -/
theorem b256_76 (hG : Shp G) {v1 v2 v3 x1 x2 x3 x4 x5 x6 x7 x8 x9 x10 x11 x12 x13 x14 : Int} (hQ : ∀ o o' h', q_eqo o o' → Q o h' → Q o' h')
    (s0 : -2147483648 ≤ v1 ∧ v1 < 2147483648)
    (ex1 : c 188 42 = x1)
    (s2 : (¬ v1 = 0) → (v1 = 0) → 0 ≤ x1)
    (s3 : (¬ v1 = 0) → (v1 = 0) → x1 < 45)
    (ex2 : (q_up c 206 x1 23) 188 42 = x2)
    (ex3 : (q_up (q_up c 206 x1 23) 188 42 (x2 + 1)) 188 43 = x3)
    (z6 : (¬ v1 = 0) → (v1 = 0) → Q (.inl (some (aI 1))) (G, (q_up (q_up (q_up c 206 x1 23) 188 42 (x2 + 1)) 188 43 (x3 + 1))))
    (s7 : (¬ v1 = 0) → (¬ v1 = 0) → 0 ≤ x1)
    (s8 : (¬ v1 = 0) → (¬ v1 = 0) → x1 < 45)
    (ex4 : (q_up c 206 x1 20) 188 42 = x4)
    (ex5 : (q_up (q_up c 206 x1 20) 188 42 (x4 + 1)) 188 43 = x5)
    (z11 : (¬ v1 = 0) → (¬ v1 = 0) → Q (.inl (some (aI 1))) (G, (q_up (q_up (q_up c 206 x1 20) 188 42 (x4 + 1)) 188 43 (x5 + 1))))
    (s12 : (v1 = 0) → -2147483648 ≤ v2 ∧ v2 < 2147483648)
    (s13 : (v1 = 0) → (v2 = 0) → -2147483648 ≤ v3 ∧ v3 < 2147483648)
    (ex6 : (q_up c 188 44 1) 188 11 = x6)
    (s15 : (v1 = 0) → (v2 = 0) → (¬ v3 = 0) → (3 ≤ v3) → -2147483648 ≤ x6 ∧ x6 < 2147483648)
    (m16 : (v1 = 0) → (v2 = 0) → (¬ v3 = 0) → (3 ≤ v3) → (¬ x6 = 3) → TM d 173 [aR 188, aI 1] (G, (q_up c 188 44 1)) (fun r h' => T (d + 1) 256 251 [none, none, none, none, none] (r.toList ++ []) h' Q))
    (ex7 : (q_up c 188 44 1) 188 14 = x7)
    (s18 : (v1 = 0) → (v2 = 0) → (¬ v3 = 0) → (3 ≤ v3) → (x6 = 3) → -2147483648 ≤ x7 ∧ x7 < 2147483648)
    (m19 : (v1 = 0) → (v2 = 0) → (¬ v3 = 0) → (3 ≤ v3) → (x6 = 3) → (x7 < 60) → TM d 173 [aR 188, aI 1] (G, (q_up c 188 44 1)) (fun r h' => T (d + 1) 256 251 [none, none, none, none, none] (r.toList ++ []) h' Q))
    (ex8 : (q_up c 188 44 1) 188 14 = x8)
    (s21 : (v1 = 0) → (v2 = 0) → (¬ v3 = 0) → (3 ≤ v3) → (x6 = 3) → (60 ≤ x7) → -2147483648 ≤ x8 ∧ x8 < 2147483648)
    (ex9 : (q_up c 188 44 1) 188 14 = x9)
    (m23 : (v1 = 0) → (v2 = 0) → (¬ v3 = 0) → (3 ≤ v3) → (x6 = 3) → (60 ≤ x7) → (x8 ≤ 62) → TM d 172 [aR 188] (G, (q_up c 188 44 1)) (fun r h' => T (d + 1) 256 262 [some (aR 188), none, none, some (aI v3), some (aI x9)] (r.toList ++ []) h' Q))
    (m24 : (v1 = 0) → (v2 = 0) → (¬ v3 = 0) → (3 ≤ v3) → (x6 = 3) → (60 ≤ x7) → (62 < x8) → TM d 173 [aR 188, aI 1] (G, (q_up c 188 44 1)) (fun r h' => T (d + 1) 256 251 [none, none, none, none, none] (r.toList ++ []) h' Q))
    (m25 : (v1 = 0) → (v2 = 0) → (¬ v3 = 0) → (v3 < 3) → TM d 177 [aR 188] (G, (q_up c 188 44 1)) (fun r h' => T (d + 1) 256 153 [some (aR 188), none, none, some (aI v3), none] (r.toList ++ []) h' Q))
    (m26 : (v1 = 0) → (v2 = 0) → (v3 = 0) → TM d 252 [aR 188, aI v3, aI 0, aI 0] (G, (q_up c 188 44 1)) (fun r h' => T (d + 1) 256 142 [none, none, none, none, none] (r.toList ++ []) h' Q))
    (ex10 : c 188 42 = x10)
    (s28 : (v1 = 0) → (¬ v2 = 0) → (v1 = 0) → 0 ≤ x10)
    (s29 : (v1 = 0) → (¬ v2 = 0) → (v1 = 0) → x10 < 45)
    (ex11 : (q_up c 206 x10 23) 188 42 = x11)
    (ex12 : (q_up (q_up c 206 x10 23) 188 42 (x11 + 1)) 188 43 = x12)
    (z32 : (v1 = 0) → (¬ v2 = 0) → (v1 = 0) → Q (.inl (some (aI 1))) (G, (q_up (q_up (q_up c 206 x10 23) 188 42 (x11 + 1)) 188 43 (x12 + 1))))
    (s33 : (v1 = 0) → (¬ v2 = 0) → (¬ v1 = 0) → 0 ≤ x10)
    (s34 : (v1 = 0) → (¬ v2 = 0) → (¬ v1 = 0) → x10 < 45)
    (ex13 : (q_up c 206 x10 20) 188 42 = x13)
    (ex14 : (q_up (q_up c 206 x10 20) 188 42 (x13 + 1)) 188 43 = x14)
    (z37 : (v1 = 0) → (¬ v2 = 0) → (¬ v1 = 0) → Q (.inl (some (aI 1))) (G, (q_up (q_up (q_up c 206 x10 20) 188 42 (x13 + 1)) 188 43 (x14 + 1)))) :
    T (d + 1) 256 76 [some (aR 188), some (aI v1), some (aI v2), some (aI v3), none] [] (G, c) Q := by
  refine e_L (L' := [some (aR 188), some (aI v1), some (aI v2), some (aI v3), none]) (st' := [aI v1]) (show decode (mC 256) 76 = .ok (.iload_n 1, 1) by decide +kernel) rfl rfl ?_
  refine e_ne1 (t := 84) (show decode (mC 256) 77 = .ok (.ifCond .ne 7, 3) by decide +kernel) (by decide) s0 (fun p1 => ?_) (fun p1 => ?_)
  · refine e_L (L' := [some (aR 188), some (aI v1), some (aI v2), some (aI v3), none]) (st' := [aR 188]) (show decode (mC 256) 84 = .ok (.aload_n 0, 1) by decide +kernel) rfl (by show (if 188 = 0 then none else some (_, _)) = _; rw [if_neg (by decide)]) ?_
    refine e_getR (w := 206) (show decode (mC 256) 85 = .ok (.getfield 86, 3) by decide +kernel) (show pl 12 86 = some (0, 12, 39, 0) by decide +kernel) (by decide) (sh_ok hG (by decide +kernel)) (sh_rf hG (by decide +kernel)) ?_
    refine e_L (L' := [some (aR 188), some (aI v1), some (aI v2), some (aI v3), none]) (st' := [aR 188, aR 206]) (show decode (mC 256) 88 = .ok (.aload_n 0, 1) by decide +kernel) rfl (by show (if 188 = 0 then none else some (_, _)) = _; rw [if_neg (by decide)]) ?_
    refine e_getIx (show decode (mC 256) 89 = .ok (.getfield 381, 3) by decide +kernel) (show pl 12 381 = some (0, 12, 42, 0) by decide +kernel) (by decide) (sh_ok hG (by decide +kernel)) ex1 ?_
    refine e_L (L' := [some (aR 188), some (aI v1), some (aI v2), some (aI v3), none]) (st' := [aI v1, aI x1, aR 206]) (show decode (mC 256) 92 = .ok (.iload_n 1, 1) by decide +kernel) rfl rfl ?_
    refine e_eq1 (t := 101) (show decode (mC 256) 93 = .ok (.ifCond .eq 8, 3) by decide +kernel) (by decide) s0 (fun p2 => ?_) (fun p2 => ?_)
    · refine e_P (st' := [aI 23, aI x1, aR 206]) (show decode (mC 256) 101 = .ok (.bipush 23, 2) by decide +kernel) rfl rfl rfl ?_
      refine e_iast (n := 45) (show decode (mC 256) 103 = .ok (.iastore, 1) by decide +kernel) (sh_ok hG (by decide +kernel)) (sh_ln hG (by decide +kernel)) (by decide) (s2 p1 p2) (s3 p1 p2) ?_
      refine e_L (L' := [some (aR 188), some (aI v1), some (aI v2), some (aI v3), none]) (st' := [aR 188]) (show decode (mC 256) 104 = .ok (.aload_n 0, 1) by decide +kernel) rfl (by show (if 188 = 0 then none else some (_, _)) = _; rw [if_neg (by decide)]) ?_
      refine e_P (st' := [aR 188, aR 188]) (show decode (mC 256) 105 = .ok (.dup, 1) by decide +kernel) rfl rfl rfl ?_
      refine e_getIx (show decode (mC 256) 106 = .ok (.getfield 381, 3) by decide +kernel) (show pl 12 381 = some (0, 12, 42, 0) by decide +kernel) (by decide) (sh_ok hG (by decide +kernel)) ex2 ?_
      refine e_P (st' := [aI 1, aI x2, aR 188]) (show decode (mC 256) 109 = .ok (.iconst 1, 1) by decide +kernel) rfl rfl rfl ?_
      refine e_P (st' := [aI (x2 + 1), aR 188]) (show decode (mC 256) 110 = .ok (.iadd, 1) by decide +kernel) rfl rfl rfl ?_
      refine e_putI (show decode (mC 256) 111 = .ok (.putfield 381, 3) by decide +kernel) (show pl 12 381 = some (0, 12, 42, 0) by decide +kernel) (by decide) (sh_ok hG (by decide +kernel)) ?_
      refine e_L (L' := [some (aR 188), some (aI v1), some (aI v2), some (aI v3), none]) (st' := [aR 188]) (show decode (mC 256) 114 = .ok (.aload_n 0, 1) by decide +kernel) rfl (by show (if 188 = 0 then none else some (_, _)) = _; rw [if_neg (by decide)]) ?_
      refine e_P (st' := [aR 188, aR 188]) (show decode (mC 256) 115 = .ok (.dup, 1) by decide +kernel) rfl rfl rfl ?_
      refine e_getIx (show decode (mC 256) 116 = .ok (.getfield 388, 3) by decide +kernel) (show pl 12 388 = some (0, 12, 43, 0) by decide +kernel) (by decide) (sh_ok hG (by decide +kernel)) ex3 ?_
      refine e_P (st' := [aI 1, aI x3, aR 188]) (show decode (mC 256) 119 = .ok (.iconst 1, 1) by decide +kernel) rfl rfl rfl ?_
      refine e_P (st' := [aI (x3 + 1), aR 188]) (show decode (mC 256) 120 = .ok (.iadd, 1) by decide +kernel) rfl rfl rfl ?_
      refine e_putI (show decode (mC 256) 121 = .ok (.putfield 388, 3) by decide +kernel) (show pl 12 388 = some (0, 12, 43, 0) by decide +kernel) (by decide) (sh_ok hG (by decide +kernel)) ?_
      refine e_P (st' := [aI 1]) (show decode (mC 256) 124 = .ok (.iconst 1, 1) by decide +kernel) rfl rfl rfl ?_
      exact e_zret (show decode (mC 256) 125 = .ok (.ireturn, 1) by decide +kernel) rfl (by decide) (z6 p1 p2)
    · refine e_P (st' := [aI 20, aI x1, aR 206]) (show decode (mC 256) 96 = .ok (.bipush 20, 2) by decide +kernel) rfl rfl rfl ?_
      refine e_go (t := 103) (show decode (mC 256) 98 = .ok (.goto 5, 3) by decide +kernel) (by decide) ?_
      refine e_iast (n := 45) (show decode (mC 256) 103 = .ok (.iastore, 1) by decide +kernel) (sh_ok hG (by decide +kernel)) (sh_ln hG (by decide +kernel)) (by decide) (s7 p1 p2) (s8 p1 p2) ?_
      refine e_L (L' := [some (aR 188), some (aI v1), some (aI v2), some (aI v3), none]) (st' := [aR 188]) (show decode (mC 256) 104 = .ok (.aload_n 0, 1) by decide +kernel) rfl (by show (if 188 = 0 then none else some (_, _)) = _; rw [if_neg (by decide)]) ?_
      refine e_P (st' := [aR 188, aR 188]) (show decode (mC 256) 105 = .ok (.dup, 1) by decide +kernel) rfl rfl rfl ?_
      refine e_getIx (show decode (mC 256) 106 = .ok (.getfield 381, 3) by decide +kernel) (show pl 12 381 = some (0, 12, 42, 0) by decide +kernel) (by decide) (sh_ok hG (by decide +kernel)) ex4 ?_
      refine e_P (st' := [aI 1, aI x4, aR 188]) (show decode (mC 256) 109 = .ok (.iconst 1, 1) by decide +kernel) rfl rfl rfl ?_
      refine e_P (st' := [aI (x4 + 1), aR 188]) (show decode (mC 256) 110 = .ok (.iadd, 1) by decide +kernel) rfl rfl rfl ?_
      refine e_putI (show decode (mC 256) 111 = .ok (.putfield 381, 3) by decide +kernel) (show pl 12 381 = some (0, 12, 42, 0) by decide +kernel) (by decide) (sh_ok hG (by decide +kernel)) ?_
      refine e_L (L' := [some (aR 188), some (aI v1), some (aI v2), some (aI v3), none]) (st' := [aR 188]) (show decode (mC 256) 114 = .ok (.aload_n 0, 1) by decide +kernel) rfl (by show (if 188 = 0 then none else some (_, _)) = _; rw [if_neg (by decide)]) ?_
      refine e_P (st' := [aR 188, aR 188]) (show decode (mC 256) 115 = .ok (.dup, 1) by decide +kernel) rfl rfl rfl ?_
      refine e_getIx (show decode (mC 256) 116 = .ok (.getfield 388, 3) by decide +kernel) (show pl 12 388 = some (0, 12, 43, 0) by decide +kernel) (by decide) (sh_ok hG (by decide +kernel)) ex5 ?_
      refine e_P (st' := [aI 1, aI x5, aR 188]) (show decode (mC 256) 119 = .ok (.iconst 1, 1) by decide +kernel) rfl rfl rfl ?_
      refine e_P (st' := [aI (x5 + 1), aR 188]) (show decode (mC 256) 120 = .ok (.iadd, 1) by decide +kernel) rfl rfl rfl ?_
      refine e_putI (show decode (mC 256) 121 = .ok (.putfield 388, 3) by decide +kernel) (show pl 12 388 = some (0, 12, 43, 0) by decide +kernel) (by decide) (sh_ok hG (by decide +kernel)) ?_
      refine e_P (st' := [aI 1]) (show decode (mC 256) 124 = .ok (.iconst 1, 1) by decide +kernel) rfl rfl rfl ?_
      exact e_zret (show decode (mC 256) 125 = .ok (.ireturn, 1) by decide +kernel) rfl (by decide) (z11 p1 p2)
  · refine e_L (L' := [some (aR 188), some (aI v1), some (aI v2), some (aI v3), none]) (st' := [aI v2]) (show decode (mC 256) 80 = .ok (.iload_n 2, 1) by decide +kernel) rfl rfl ?_
    refine e_eq1 (t := 126) (show decode (mC 256) 81 = .ok (.ifCond .eq 45, 3) by decide +kernel) (by decide) (s12 p1) (fun p2 => ?_) (fun p2 => ?_)
    · refine e_L (L' := [some (aR 188), some (aI v1), some (aI v2), some (aI v3), none]) (st' := [aR 188]) (show decode (mC 256) 126 = .ok (.aload_n 0, 1) by decide +kernel) rfl (by show (if 188 = 0 then none else some (_, _)) = _; rw [if_neg (by decide)]) ?_
      refine e_P (st' := [aI 1, aR 188]) (show decode (mC 256) 127 = .ok (.iconst 1, 1) by decide +kernel) rfl rfl rfl ?_
      refine e_putZ (show decode (mC 256) 128 = .ok (.putfield 397, 3) by decide +kernel) (show pl 12 397 = some (0, 12, 44, 0) by decide +kernel) (by decide) (sh_ok hG (by decide +kernel)) (by decide) ?_
      refine e_L (L' := [some (aR 188), some (aI v1), some (aI v2), some (aI v3), none]) (st' := [aI v3]) (show decode (mC 256) 131 = .ok (.iload_n 3, 1) by decide +kernel) rfl rfl ?_
      refine e_ne1 (t := 144) (show decode (mC 256) 132 = .ok (.ifCond .ne 12, 3) by decide +kernel) (by decide) (s13 p1 p2) (fun p3 => ?_) (fun p3 => ?_)
      · refine e_L (L' := [some (aR 188), some (aI v1), some (aI v2), some (aI v3), none]) (st' := [aI v3]) (show decode (mC 256) 144 = .ok (.iload_n 3, 1) by decide +kernel) rfl rfl ?_
        refine e_P (st' := [aI 3, aI v3]) (show decode (mC 256) 145 = .ok (.iconst 3, 1) by decide +kernel) rfl rfl rfl ?_
        refine e_ge2 (t := 220) (show decode (mC 256) 146 = .ok (.if_icmp .ge 74, 3) by decide +kernel) (by decide) (s13 p1 p2) (by decide) (fun p4 => ?_) (fun p4 => ?_)
        · refine e_L (L' := [some (aR 188), some (aI v1), some (aI v2), some (aI v3), none]) (st' := [aR 188]) (show decode (mC 256) 220 = .ok (.aload_n 0, 1) by decide +kernel) rfl (by show (if 188 = 0 then none else some (_, _)) = _; rw [if_neg (by decide)]) ?_
          refine e_getIx (show decode (mC 256) 221 = .ok (.getfield 152, 3) by decide +kernel) (show pl 12 152 = some (0, 12, 11, 0) by decide +kernel) (by decide) (sh_ok hG (by decide +kernel)) ex6 ?_
          refine e_P (st' := [aI 3, aI x6]) (show decode (mC 256) 224 = .ok (.iconst 3, 1) by decide +kernel) rfl rfl rfl ?_
          refine e_ne2 (t := 246) (show decode (mC 256) 225 = .ok (.if_icmp .ne 21, 3) by decide +kernel) (by decide) (s15 p1 p2 p3 p4) (by decide) (fun p5 => ?_) (fun p5 => ?_)
          · refine e_L (L' := [some (aR 188), some (aI v1), some (aI v2), some (aI v3), none]) (st' := [aR 188]) (show decode (mC 256) 246 = .ok (.aload_n 0, 1) by decide +kernel) rfl (by show (if 188 = 0 then none else some (_, _)) = _; rw [if_neg (by decide)]) ?_
            refine e_P (st' := [aI 1, aR 188]) (show decode (mC 256) 247 = .ok (.iconst 1, 1) by decide +kernel) rfl rfl rfl ?_
            exact e_V (as := [aR 188, aI 1]) (rest := []) (show decode (mC 256) 248 = .ok (.invokevirtual 178, 3) by decide +kernel) (by decide +kernel) (show (decide ((2 : Nat) = mA 173) && decide (173 < q_law)) = true by decide +kernel) rfl (show (0 : Nat) ≤ 8 by decide) (show (2 : Nat) ≤ mL 173 by decide +kernel) rfl (sh_ok hG (by decide +kernel)) (tm_le hQ (leN (leN (leN (leN (leS leE))))) (m16 p1 p2 p3 p4 p5))
          · refine e_L (L' := [some (aR 188), some (aI v1), some (aI v2), some (aI v3), none]) (st' := [aR 188]) (show decode (mC 256) 228 = .ok (.aload_n 0, 1) by decide +kernel) rfl (by show (if 188 = 0 then none else some (_, _)) = _; rw [if_neg (by decide)]) ?_
            refine e_getIx (show decode (mC 256) 229 = .ok (.getfield 162, 3) by decide +kernel) (show pl 12 162 = some (0, 12, 14, 0) by decide +kernel) (by decide) (sh_ok hG (by decide +kernel)) ex7 ?_
            refine e_P (st' := [aI 60, aI x7]) (show decode (mC 256) 232 = .ok (.bipush 60, 2) by decide +kernel) rfl rfl rfl ?_
            refine e_lt2 (t := 246) (show decode (mC 256) 234 = .ok (.if_icmp .lt 12, 3) by decide +kernel) (by decide) (s18 p1 p2 p3 p4 p5) (by decide) (fun p6 => ?_) (fun p6 => ?_)
            · refine e_L (L' := [some (aR 188), some (aI v1), some (aI v2), some (aI v3), none]) (st' := [aR 188]) (show decode (mC 256) 246 = .ok (.aload_n 0, 1) by decide +kernel) rfl (by show (if 188 = 0 then none else some (_, _)) = _; rw [if_neg (by decide)]) ?_
              refine e_P (st' := [aI 1, aR 188]) (show decode (mC 256) 247 = .ok (.iconst 1, 1) by decide +kernel) rfl rfl rfl ?_
              exact e_V (as := [aR 188, aI 1]) (rest := []) (show decode (mC 256) 248 = .ok (.invokevirtual 178, 3) by decide +kernel) (by decide +kernel) (show (decide ((2 : Nat) = mA 173) && decide (173 < q_law)) = true by decide +kernel) rfl (show (0 : Nat) ≤ 8 by decide) (show (2 : Nat) ≤ mL 173 by decide +kernel) rfl (sh_ok hG (by decide +kernel)) (tm_le hQ (leN (leN (leN (leN (leS leE))))) (m19 p1 p2 p3 p4 p5 p6))
            · refine e_L (L' := [some (aR 188), some (aI v1), some (aI v2), some (aI v3), none]) (st' := [aR 188]) (show decode (mC 256) 237 = .ok (.aload_n 0, 1) by decide +kernel) rfl (by show (if 188 = 0 then none else some (_, _)) = _; rw [if_neg (by decide)]) ?_
              refine e_getIx (show decode (mC 256) 238 = .ok (.getfield 162, 3) by decide +kernel) (show pl 12 162 = some (0, 12, 14, 0) by decide +kernel) (by decide) (sh_ok hG (by decide +kernel)) ex8 ?_
              refine e_P (st' := [aI 62, aI x8]) (show decode (mC 256) 241 = .ok (.bipush 62, 2) by decide +kernel) rfl rfl rfl ?_
              refine e_le2 (t := 252) (show decode (mC 256) 243 = .ok (.if_icmp .le 9, 3) by decide +kernel) (by decide) (s21 p1 p2 p3 p4 p5 p6) (by decide) (fun p7 => ?_) (fun p7 => ?_)
              · refine e_L (L' := [some (aR 188), some (aI v1), some (aI v2), some (aI v3), none]) (st' := [aR 188]) (show decode (mC 256) 252 = .ok (.aload_n 0, 1) by decide +kernel) rfl (by show (if 188 = 0 then none else some (_, _)) = _; rw [if_neg (by decide)]) ?_
                refine e_getIx (show decode (mC 256) 253 = .ok (.getfield 162, 3) by decide +kernel) (show pl 12 162 = some (0, 12, 14, 0) by decide +kernel) (by decide) (sh_ok hG (by decide +kernel)) ex9 ?_
                refine e_L (L' := [some (aR 188), some (aI v1), some (aI v2), some (aI v3), some (aI x9)]) (st' := []) (show decode (mC 256) 256 = .ok (.istore 4, 2) by decide +kernel) rfl rfl ?_
                refine e_L (L' := [some (aR 188), some (aI v1), some (aI v2), some (aI v3), some (aI x9)]) (st' := [aR 188]) (show decode (mC 256) 258 = .ok (.aload_n 0, 1) by decide +kernel) rfl (by show (if 188 = 0 then none else some (_, _)) = _; rw [if_neg (by decide)]) ?_
                exact e_V (as := [aR 188]) (rest := []) (show decode (mC 256) 259 = .ok (.invokevirtual 181, 3) by decide +kernel) (by decide +kernel) (show (decide ((1 : Nat) = mA 172) && decide (172 < q_law)) = true by decide +kernel) rfl (show (0 : Nat) ≤ 8 by decide) (show (1 : Nat) ≤ mL 172 by decide +kernel) rfl (sh_ok hG (by decide +kernel)) (tm_le hQ (leS (leN (leN (leS (leS leE))))) (m23 p1 p2 p3 p4 p5 p6 p7))
              · refine e_L (L' := [some (aR 188), some (aI v1), some (aI v2), some (aI v3), none]) (st' := [aR 188]) (show decode (mC 256) 246 = .ok (.aload_n 0, 1) by decide +kernel) rfl (by show (if 188 = 0 then none else some (_, _)) = _; rw [if_neg (by decide)]) ?_
                refine e_P (st' := [aI 1, aR 188]) (show decode (mC 256) 247 = .ok (.iconst 1, 1) by decide +kernel) rfl rfl rfl ?_
                exact e_V (as := [aR 188, aI 1]) (rest := []) (show decode (mC 256) 248 = .ok (.invokevirtual 178, 3) by decide +kernel) (by decide +kernel) (show (decide ((2 : Nat) = mA 173) && decide (173 < q_law)) = true by decide +kernel) rfl (show (0 : Nat) ≤ 8 by decide) (show (2 : Nat) ≤ mL 173 by decide +kernel) rfl (sh_ok hG (by decide +kernel)) (tm_le hQ (leN (leN (leN (leN (leS leE))))) (m24 p1 p2 p3 p4 p5 p6 p7))
        · refine e_L (L' := [some (aR 188), some (aI v1), some (aI v2), some (aI v3), none]) (st' := [aR 188]) (show decode (mC 256) 149 = .ok (.aload_n 0, 1) by decide +kernel) rfl (by show (if 188 = 0 then none else some (_, _)) = _; rw [if_neg (by decide)]) ?_
          exact e_V (as := [aR 188]) (rest := []) (show decode (mC 256) 150 = .ok (.invokevirtual 191, 3) by decide +kernel) (by decide +kernel) (show (decide ((1 : Nat) = mA 177) && decide (177 < q_law)) = true by decide +kernel) rfl (show (0 : Nat) ≤ 8 by decide) (show (1 : Nat) ≤ mL 177 by decide +kernel) rfl (sh_ok hG (by decide +kernel)) (tm_le hQ (leS (leN (leN (leS (leS leE))))) (m25 p1 p2 p3 p4))
      · refine e_L (L' := [some (aR 188), some (aI v1), some (aI v2), some (aI v3), none]) (st' := [aR 188]) (show decode (mC 256) 135 = .ok (.aload_n 0, 1) by decide +kernel) rfl (by show (if 188 = 0 then none else some (_, _)) = _; rw [if_neg (by decide)]) ?_
        refine e_L (L' := [some (aR 188), some (aI v1), some (aI v2), some (aI v3), none]) (st' := [aI v3, aR 188]) (show decode (mC 256) 136 = .ok (.iload_n 3, 1) by decide +kernel) rfl rfl ?_
        refine e_P (st' := [aI 0, aI v3, aR 188]) (show decode (mC 256) 137 = .ok (.iconst 0, 1) by decide +kernel) rfl rfl rfl ?_
        refine e_P (st' := [aI 0, aI 0, aI v3, aR 188]) (show decode (mC 256) 138 = .ok (.iconst 0, 1) by decide +kernel) rfl rfl rfl ?_
        exact e_V (as := [aR 188, aI v3, aI 0, aI 0]) (rest := []) (show decode (mC 256) 139 = .ok (.invokevirtual 384, 3) by decide +kernel) (by decide +kernel) (show (decide ((4 : Nat) = mA 252) && decide (252 < q_law)) = true by decide +kernel) rfl (show (0 : Nat) ≤ 8 by decide) (show (4 : Nat) ≤ mL 252 by decide +kernel) rfl (sh_ok hG (by decide +kernel)) (tm_le hQ (leN (leN (leN (leN (leS leE))))) (m26 p1 p2 p3))
    · refine e_L (L' := [some (aR 188), some (aI v1), some (aI v2), some (aI v3), none]) (st' := [aR 188]) (show decode (mC 256) 84 = .ok (.aload_n 0, 1) by decide +kernel) rfl (by show (if 188 = 0 then none else some (_, _)) = _; rw [if_neg (by decide)]) ?_
      refine e_getR (w := 206) (show decode (mC 256) 85 = .ok (.getfield 86, 3) by decide +kernel) (show pl 12 86 = some (0, 12, 39, 0) by decide +kernel) (by decide) (sh_ok hG (by decide +kernel)) (sh_rf hG (by decide +kernel)) ?_
      refine e_L (L' := [some (aR 188), some (aI v1), some (aI v2), some (aI v3), none]) (st' := [aR 188, aR 206]) (show decode (mC 256) 88 = .ok (.aload_n 0, 1) by decide +kernel) rfl (by show (if 188 = 0 then none else some (_, _)) = _; rw [if_neg (by decide)]) ?_
      refine e_getIx (show decode (mC 256) 89 = .ok (.getfield 381, 3) by decide +kernel) (show pl 12 381 = some (0, 12, 42, 0) by decide +kernel) (by decide) (sh_ok hG (by decide +kernel)) ex10 ?_
      refine e_L (L' := [some (aR 188), some (aI v1), some (aI v2), some (aI v3), none]) (st' := [aI v1, aI x10, aR 206]) (show decode (mC 256) 92 = .ok (.iload_n 1, 1) by decide +kernel) rfl rfl ?_
      refine e_eq1 (t := 101) (show decode (mC 256) 93 = .ok (.ifCond .eq 8, 3) by decide +kernel) (by decide) s0 (fun p3 => ?_) (fun p3 => ?_)
      · refine e_P (st' := [aI 23, aI x10, aR 206]) (show decode (mC 256) 101 = .ok (.bipush 23, 2) by decide +kernel) rfl rfl rfl ?_
        refine e_iast (n := 45) (show decode (mC 256) 103 = .ok (.iastore, 1) by decide +kernel) (sh_ok hG (by decide +kernel)) (sh_ln hG (by decide +kernel)) (by decide) (s28 p1 p2 p3) (s29 p1 p2 p3) ?_
        refine e_L (L' := [some (aR 188), some (aI v1), some (aI v2), some (aI v3), none]) (st' := [aR 188]) (show decode (mC 256) 104 = .ok (.aload_n 0, 1) by decide +kernel) rfl (by show (if 188 = 0 then none else some (_, _)) = _; rw [if_neg (by decide)]) ?_
        refine e_P (st' := [aR 188, aR 188]) (show decode (mC 256) 105 = .ok (.dup, 1) by decide +kernel) rfl rfl rfl ?_
        refine e_getIx (show decode (mC 256) 106 = .ok (.getfield 381, 3) by decide +kernel) (show pl 12 381 = some (0, 12, 42, 0) by decide +kernel) (by decide) (sh_ok hG (by decide +kernel)) ex11 ?_
        refine e_P (st' := [aI 1, aI x11, aR 188]) (show decode (mC 256) 109 = .ok (.iconst 1, 1) by decide +kernel) rfl rfl rfl ?_
        refine e_P (st' := [aI (x11 + 1), aR 188]) (show decode (mC 256) 110 = .ok (.iadd, 1) by decide +kernel) rfl rfl rfl ?_
        refine e_putI (show decode (mC 256) 111 = .ok (.putfield 381, 3) by decide +kernel) (show pl 12 381 = some (0, 12, 42, 0) by decide +kernel) (by decide) (sh_ok hG (by decide +kernel)) ?_
        refine e_L (L' := [some (aR 188), some (aI v1), some (aI v2), some (aI v3), none]) (st' := [aR 188]) (show decode (mC 256) 114 = .ok (.aload_n 0, 1) by decide +kernel) rfl (by show (if 188 = 0 then none else some (_, _)) = _; rw [if_neg (by decide)]) ?_
        refine e_P (st' := [aR 188, aR 188]) (show decode (mC 256) 115 = .ok (.dup, 1) by decide +kernel) rfl rfl rfl ?_
        refine e_getIx (show decode (mC 256) 116 = .ok (.getfield 388, 3) by decide +kernel) (show pl 12 388 = some (0, 12, 43, 0) by decide +kernel) (by decide) (sh_ok hG (by decide +kernel)) ex12 ?_
        refine e_P (st' := [aI 1, aI x12, aR 188]) (show decode (mC 256) 119 = .ok (.iconst 1, 1) by decide +kernel) rfl rfl rfl ?_
        refine e_P (st' := [aI (x12 + 1), aR 188]) (show decode (mC 256) 120 = .ok (.iadd, 1) by decide +kernel) rfl rfl rfl ?_
        refine e_putI (show decode (mC 256) 121 = .ok (.putfield 388, 3) by decide +kernel) (show pl 12 388 = some (0, 12, 43, 0) by decide +kernel) (by decide) (sh_ok hG (by decide +kernel)) ?_
        refine e_P (st' := [aI 1]) (show decode (mC 256) 124 = .ok (.iconst 1, 1) by decide +kernel) rfl rfl rfl ?_
        exact e_zret (show decode (mC 256) 125 = .ok (.ireturn, 1) by decide +kernel) rfl (by decide) (z32 p1 p2 p3)
      · refine e_P (st' := [aI 20, aI x10, aR 206]) (show decode (mC 256) 96 = .ok (.bipush 20, 2) by decide +kernel) rfl rfl rfl ?_
        refine e_go (t := 103) (show decode (mC 256) 98 = .ok (.goto 5, 3) by decide +kernel) (by decide) ?_
        refine e_iast (n := 45) (show decode (mC 256) 103 = .ok (.iastore, 1) by decide +kernel) (sh_ok hG (by decide +kernel)) (sh_ln hG (by decide +kernel)) (by decide) (s33 p1 p2 p3) (s34 p1 p2 p3) ?_
        refine e_L (L' := [some (aR 188), some (aI v1), some (aI v2), some (aI v3), none]) (st' := [aR 188]) (show decode (mC 256) 104 = .ok (.aload_n 0, 1) by decide +kernel) rfl (by show (if 188 = 0 then none else some (_, _)) = _; rw [if_neg (by decide)]) ?_
        refine e_P (st' := [aR 188, aR 188]) (show decode (mC 256) 105 = .ok (.dup, 1) by decide +kernel) rfl rfl rfl ?_
        refine e_getIx (show decode (mC 256) 106 = .ok (.getfield 381, 3) by decide +kernel) (show pl 12 381 = some (0, 12, 42, 0) by decide +kernel) (by decide) (sh_ok hG (by decide +kernel)) ex13 ?_
        refine e_P (st' := [aI 1, aI x13, aR 188]) (show decode (mC 256) 109 = .ok (.iconst 1, 1) by decide +kernel) rfl rfl rfl ?_
        refine e_P (st' := [aI (x13 + 1), aR 188]) (show decode (mC 256) 110 = .ok (.iadd, 1) by decide +kernel) rfl rfl rfl ?_
        refine e_putI (show decode (mC 256) 111 = .ok (.putfield 381, 3) by decide +kernel) (show pl 12 381 = some (0, 12, 42, 0) by decide +kernel) (by decide) (sh_ok hG (by decide +kernel)) ?_
        refine e_L (L' := [some (aR 188), some (aI v1), some (aI v2), some (aI v3), none]) (st' := [aR 188]) (show decode (mC 256) 114 = .ok (.aload_n 0, 1) by decide +kernel) rfl (by show (if 188 = 0 then none else some (_, _)) = _; rw [if_neg (by decide)]) ?_
        refine e_P (st' := [aR 188, aR 188]) (show decode (mC 256) 115 = .ok (.dup, 1) by decide +kernel) rfl rfl rfl ?_
        refine e_getIx (show decode (mC 256) 116 = .ok (.getfield 388, 3) by decide +kernel) (show pl 12 388 = some (0, 12, 43, 0) by decide +kernel) (by decide) (sh_ok hG (by decide +kernel)) ex14 ?_
        refine e_P (st' := [aI 1, aI x14, aR 188]) (show decode (mC 256) 119 = .ok (.iconst 1, 1) by decide +kernel) rfl rfl rfl ?_
        refine e_P (st' := [aI (x14 + 1), aR 188]) (show decode (mC 256) 120 = .ok (.iadd, 1) by decide +kernel) rfl rfl rfl ?_
        refine e_putI (show decode (mC 256) 121 = .ok (.putfield 388, 3) by decide +kernel) (show pl 12 388 = some (0, 12, 43, 0) by decide +kernel) (by decide) (sh_ok hG (by decide +kernel)) ?_
        refine e_P (st' := [aI 1]) (show decode (mC 256) 124 = .ok (.iconst 1, 1) by decide +kernel) rfl rfl rfl ?_
        exact e_zret (show decode (mC 256) 125 = .ok (.ireturn, 1) by decide +kernel) rfl (by decide) (z37 p1 p2 p3)
/-- SoulOfficeModel.operand()Z, from 142 -/
theorem b256_142 (hG : Shp G)
    (z0 : Q (.inl (some (aI 1))) (G, c)) :
    T (d + 1) 256 142 [none, none, none, none, none] [] (G, c) Q := by
  refine e_P (st' := [aI 1]) (show decode (mC 256) 142 = .ok (.iconst 1, 1) by decide +kernel) rfl rfl rfl ?_
  exact e_zret (show decode (mC 256) 143 = .ok (.ireturn, 1) by decide +kernel) rfl (by decide) z0
/-- SoulOfficeModel.operand()Z, from 153 -/
theorem b256_153 (hG : Shp G) {v3 u0 x1 x2 : Int} (hQ : ∀ o o' h', q_eqo o o' → Q o h' → Q o' h')
    (s0 : -2147483648 ≤ u0 ∧ u0 < 2147483648)
    (s1 : (¬ u0 = 0) → -2147483648 ≤ v3 ∧ v3 < 2147483648)
    (ex1 : c 190 1 = x1)
    (m3 : (¬ u0 = 0) → (¬ v3 = 1) → TM d 179 [aR 188, aI 6, aI x1] (G, c) (fun r h' => T (d + 1) 256 193 [some (aR 188), none, none, some (aI v3), none] (r.toList ++ []) h' Q))
    (ex2 : c 190 0 = x2)
    (m5 : (¬ u0 = 0) → (v3 = 1) → TM d 179 [aR 188, aI 0, aI x2] (G, c) (fun r h' => T (d + 1) 256 178 [some (aR 188), none, none, some (aI v3), none] (r.toList ++ []) h' Q))
    (m6 : (u0 = 0) → TM d 173 [aR 188, aI 1] (G, c) (fun r h' => T (d + 1) 256 161 [none, none, none, none, none] (r.toList ++ []) h' Q)) :
    T (d + 1) 256 153 [some (aR 188), none, none, some (aI v3), none] [aI u0] (G, c) Q := by
  refine e_ne1 (t := 162) (show decode (mC 256) 153 = .ok (.ifCond .ne 9, 3) by decide +kernel) (by decide) s0 (fun p1 => ?_) (fun p1 => ?_)
  · refine e_L (L' := [some (aR 188), none, none, some (aI v3), none]) (st' := [aI v3]) (show decode (mC 256) 162 = .ok (.iload_n 3, 1) by decide +kernel) rfl rfl ?_
    refine e_P (st' := [aI 1, aI v3]) (show decode (mC 256) 163 = .ok (.iconst 1, 1) by decide +kernel) rfl rfl rfl ?_
    refine e_ne2 (t := 181) (show decode (mC 256) 164 = .ok (.if_icmp .ne 17, 3) by decide +kernel) (by decide) (s1 p1) (by decide) (fun p2 => ?_) (fun p2 => ?_)
    · refine e_L (L' := [some (aR 188), none, none, some (aI v3), none]) (st' := [aR 188]) (show decode (mC 256) 181 = .ok (.aload_n 0, 1) by decide +kernel) rfl (by show (if 188 = 0 then none else some (_, _)) = _; rw [if_neg (by decide)]) ?_
      refine e_P (st' := [aI 6, aR 188]) (show decode (mC 256) 182 = .ok (.bipush 6, 2) by decide +kernel) rfl rfl rfl ?_
      refine e_L (L' := [some (aR 188), none, none, some (aI v3), none]) (st' := [aR 188, aI 6, aR 188]) (show decode (mC 256) 184 = .ok (.aload_n 0, 1) by decide +kernel) rfl (by show (if 188 = 0 then none else some (_, _)) = _; rw [if_neg (by decide)]) ?_
      refine e_getR (w := 190) (show decode (mC 256) 185 = .ok (.getfield 33, 3) by decide +kernel) (show pl 12 33 = some (0, 12, 6, 0) by decide +kernel) (by decide) (sh_ok hG (by decide +kernel)) (sh_rf hG (by decide +kernel)) ?_
      refine e_P (st' := [aI 1, aR 190, aI 6, aR 188]) (show decode (mC 256) 188 = .ok (.iconst 1, 1) by decide +kernel) rfl rfl rfl ?_
      refine e_ialdx (n := 514) (show decode (mC 256) 189 = .ok (.iaload, 1) by decide +kernel) (sh_ok hG (by decide +kernel)) (sh_ln hG (by decide +kernel)) (by decide) (by decide) (by decide) ex1 ?_
      exact e_V (as := [aR 188, aI 6, aI x1]) (rest := []) (show decode (mC 256) 190 = .ok (.invokevirtual 195, 3) by decide +kernel) (by decide +kernel) (show (decide ((3 : Nat) = mA 179) && decide (179 < q_law)) = true by decide +kernel) rfl (show (0 : Nat) ≤ 8 by decide) (show (3 : Nat) ≤ mL 179 by decide +kernel) rfl (sh_ok hG (by decide +kernel)) (m3 p1 p2)
    · refine e_L (L' := [some (aR 188), none, none, some (aI v3), none]) (st' := [aR 188]) (show decode (mC 256) 167 = .ok (.aload_n 0, 1) by decide +kernel) rfl (by show (if 188 = 0 then none else some (_, _)) = _; rw [if_neg (by decide)]) ?_
      refine e_P (st' := [aI 0, aR 188]) (show decode (mC 256) 168 = .ok (.iconst 0, 1) by decide +kernel) rfl rfl rfl ?_
      refine e_L (L' := [some (aR 188), none, none, some (aI v3), none]) (st' := [aR 188, aI 0, aR 188]) (show decode (mC 256) 169 = .ok (.aload_n 0, 1) by decide +kernel) rfl (by show (if 188 = 0 then none else some (_, _)) = _; rw [if_neg (by decide)]) ?_
      refine e_getR (w := 190) (show decode (mC 256) 170 = .ok (.getfield 33, 3) by decide +kernel) (show pl 12 33 = some (0, 12, 6, 0) by decide +kernel) (by decide) (sh_ok hG (by decide +kernel)) (sh_rf hG (by decide +kernel)) ?_
      refine e_P (st' := [aI 0, aR 190, aI 0, aR 188]) (show decode (mC 256) 173 = .ok (.iconst 0, 1) by decide +kernel) rfl rfl rfl ?_
      refine e_ialdx (n := 514) (show decode (mC 256) 174 = .ok (.iaload, 1) by decide +kernel) (sh_ok hG (by decide +kernel)) (sh_ln hG (by decide +kernel)) (by decide) (by decide) (by decide) ex2 ?_
      exact e_V (as := [aR 188, aI 0, aI x2]) (rest := []) (show decode (mC 256) 175 = .ok (.invokevirtual 195, 3) by decide +kernel) (by decide +kernel) (show (decide ((3 : Nat) = mA 179) && decide (179 < q_law)) = true by decide +kernel) rfl (show (0 : Nat) ≤ 8 by decide) (show (3 : Nat) ≤ mL 179 by decide +kernel) rfl (sh_ok hG (by decide +kernel)) (m5 p1 p2)
  · refine e_L (L' := [some (aR 188), none, none, some (aI v3), none]) (st' := [aR 188]) (show decode (mC 256) 156 = .ok (.aload_n 0, 1) by decide +kernel) rfl (by show (if 188 = 0 then none else some (_, _)) = _; rw [if_neg (by decide)]) ?_
    refine e_P (st' := [aI 1, aR 188]) (show decode (mC 256) 157 = .ok (.iconst 1, 1) by decide +kernel) rfl rfl rfl ?_
    exact e_V (as := [aR 188, aI 1]) (rest := []) (show decode (mC 256) 158 = .ok (.invokevirtual 178, 3) by decide +kernel) (by decide +kernel) (show (decide ((2 : Nat) = mA 173) && decide (173 < q_law)) = true by decide +kernel) rfl (show (0 : Nat) ≤ 8 by decide) (show (2 : Nat) ≤ mL 173 by decide +kernel) rfl (sh_ok hG (by decide +kernel)) (tm_le hQ (leN (leS (leS (leN (leS leE))))) (m6 p1))
/-- SoulOfficeModel.operand()Z, from 161 -/
theorem b256_161 (hG : Shp G) {u0 : Int}
    (s0 : u0 = 0 ∨ u0 = 1)
    (z1 : Q (.inl (some (aI u0))) (G, c)) :
    T (d + 1) 256 161 [none, none, none, none, none] [aI u0] (G, c) Q := by
  exact e_zret (show decode (mC 256) 161 = .ok (.ireturn, 1) by decide +kernel) rfl s0 z1
/-- SoulOfficeModel.operand()Z, from 178 -/
theorem b256_178 (hG : Shp G) {v3 u0 : Int}
    (k0 : T (d + 1) 256 193 [some (aR 188), none, none, some (aI v3), none] [aI u0] (G, c) Q) :
    T (d + 1) 256 178 [some (aR 188), none, none, some (aI v3), none] [aI u0] (G, c) Q := by
  refine e_go (t := 193) (show decode (mC 256) 178 = .ok (.goto 15, 3) by decide +kernel) (by decide) ?_
  exact k0
/-- SoulOfficeModel.operand()Z, from 193 -/
theorem b256_193 (hG : Shp G) {v3 u0 : Int} (hQ : ∀ o o' h', q_eqo o o' → Q o h' → Q o' h')
    (s0 : -2147483648 ≤ u0 ∧ u0 < 2147483648)
    (m1 : (0 ≤ u0) → TM d 252 [aR 188, aI v3, aI 0, aI u0] (G, c) (fun r h' => T (d + 1) 256 214 [some (aR 188), none, none, none, none] (r.toList ++ []) h' Q))
    (m2 : (u0 < 0) → TM d 173 [aR 188, aI 3] (G, c) (fun r h' => T (d + 1) 256 205 [none, none, none, none, none] (r.toList ++ []) h' Q)) :
    T (d + 1) 256 193 [some (aR 188), none, none, some (aI v3), none] [aI u0] (G, c) Q := by
  refine e_L (L' := [some (aR 188), none, none, some (aI v3), some (aI u0)]) (st' := []) (show decode (mC 256) 193 = .ok (.istore 4, 2) by decide +kernel) rfl rfl ?_
  refine e_L (L' := [some (aR 188), none, none, some (aI v3), some (aI u0)]) (st' := [aI u0]) (show decode (mC 256) 195 = .ok (.iload 4, 2) by decide +kernel) rfl rfl ?_
  refine e_ge1 (t := 206) (show decode (mC 256) 197 = .ok (.ifCond .ge 9, 3) by decide +kernel) (by decide) s0 (fun p1 => ?_) (fun p1 => ?_)
  · refine e_L (L' := [some (aR 188), none, none, some (aI v3), some (aI u0)]) (st' := [aR 188]) (show decode (mC 256) 206 = .ok (.aload_n 0, 1) by decide +kernel) rfl (by show (if 188 = 0 then none else some (_, _)) = _; rw [if_neg (by decide)]) ?_
    refine e_L (L' := [some (aR 188), none, none, some (aI v3), some (aI u0)]) (st' := [aI v3, aR 188]) (show decode (mC 256) 207 = .ok (.iload_n 3, 1) by decide +kernel) rfl rfl ?_
    refine e_P (st' := [aI 0, aI v3, aR 188]) (show decode (mC 256) 208 = .ok (.iconst 0, 1) by decide +kernel) rfl rfl rfl ?_
    refine e_L (L' := [some (aR 188), none, none, some (aI v3), some (aI u0)]) (st' := [aI u0, aI 0, aI v3, aR 188]) (show decode (mC 256) 209 = .ok (.iload 4, 2) by decide +kernel) rfl rfl ?_
    exact e_V (as := [aR 188, aI v3, aI 0, aI u0]) (rest := []) (show decode (mC 256) 211 = .ok (.invokevirtual 384, 3) by decide +kernel) (by decide +kernel) (show (decide ((4 : Nat) = mA 252) && decide (252 < q_law)) = true by decide +kernel) rfl (show (0 : Nat) ≤ 8 by decide) (show (4 : Nat) ≤ mL 252 by decide +kernel) rfl (sh_ok hG (by decide +kernel)) (tm_le hQ (leS (leS (leS (leN (leN leE))))) (m1 p1))
  · refine e_L (L' := [some (aR 188), none, none, some (aI v3), some (aI u0)]) (st' := [aR 188]) (show decode (mC 256) 200 = .ok (.aload_n 0, 1) by decide +kernel) rfl (by show (if 188 = 0 then none else some (_, _)) = _; rw [if_neg (by decide)]) ?_
    refine e_P (st' := [aI 3, aR 188]) (show decode (mC 256) 201 = .ok (.iconst 3, 1) by decide +kernel) rfl rfl rfl ?_
    exact e_V (as := [aR 188, aI 3]) (rest := []) (show decode (mC 256) 202 = .ok (.invokevirtual 178, 3) by decide +kernel) (by decide +kernel) (show (decide ((2 : Nat) = mA 173) && decide (173 < q_law)) = true by decide +kernel) rfl (show (0 : Nat) ≤ 8 by decide) (show (2 : Nat) ≤ mL 173 by decide +kernel) rfl (sh_ok hG (by decide +kernel)) (tm_le hQ (leN (leS (leS (leN (leN leE))))) (m2 p1))
/-- SoulOfficeModel.operand()Z, from 205 -/
theorem b256_205 (hG : Shp G) {u0 : Int}
    (s0 : u0 = 0 ∨ u0 = 1)
    (z1 : Q (.inl (some (aI u0))) (G, c)) :
    T (d + 1) 256 205 [none, none, none, none, none] [aI u0] (G, c) Q := by
  exact e_zret (show decode (mC 256) 205 = .ok (.ireturn, 1) by decide +kernel) rfl s0 z1
/-- SoulOfficeModel.operand()Z, from 214 -/
theorem b256_214 (hG : Shp G) (hQ : ∀ o o' h', q_eqo o o' → Q o h' → Q o' h')
    (m0 : TM d 172 [aR 188] (G, c) (fun r h' => T (d + 1) 256 218 [none, none, none, none, none] (r.toList ++ []) h' Q)) :
    T (d + 1) 256 214 [some (aR 188), none, none, none, none] [] (G, c) Q := by
  refine e_L (L' := [some (aR 188), none, none, none, none]) (st' := [aR 188]) (show decode (mC 256) 214 = .ok (.aload_n 0, 1) by decide +kernel) rfl (by show (if 188 = 0 then none else some (_, _)) = _; rw [if_neg (by decide)]) ?_
  exact e_V (as := [aR 188]) (rest := []) (show decode (mC 256) 215 = .ok (.invokevirtual 181, 3) by decide +kernel) (by decide +kernel) (show (decide ((1 : Nat) = mA 172) && decide (172 < q_law)) = true by decide +kernel) rfl (show (0 : Nat) ≤ 8 by decide) (show (1 : Nat) ≤ mL 172 by decide +kernel) rfl (sh_ok hG (by decide +kernel)) (tm_le hQ (leN (leS (leS (leS (leS leE))))) m0)
/-- SoulOfficeModel.operand()Z, from 218 -/
theorem b256_218 (hG : Shp G)
    (z0 : Q (.inl (some (aI 1))) (G, c)) :
    T (d + 1) 256 218 [none, none, none, none, none] [] (G, c) Q := by
  refine e_P (st' := [aI 1]) (show decode (mC 256) 218 = .ok (.iconst 1, 1) by decide +kernel) rfl rfl rfl ?_
  exact e_zret (show decode (mC 256) 219 = .ok (.ireturn, 1) by decide +kernel) rfl (by decide) z0
/-- SoulOfficeModel.operand()Z, from 251 -/
theorem b256_251 (hG : Shp G) {u0 : Int}
    (s0 : u0 = 0 ∨ u0 = 1)
    (z1 : Q (.inl (some (aI u0))) (G, c)) :
    T (d + 1) 256 251 [none, none, none, none, none] [aI u0] (G, c) Q := by
  exact e_zret (show decode (mC 256) 251 = .ok (.ireturn, 1) by decide +kernel) rfl s0 z1
/-- SoulOfficeModel.operand()Z, from 262 -/
theorem b256_262 (hG : Shp G) {v3 v4 x1 x2 : Int} (hQ : ∀ o o' h', q_eqo o o' → Q o h' → Q o' h')
    (ex1 : c 188 11 = x1)
    (s1 : -2147483648 ≤ x1 ∧ x1 < 2147483648)
    (ex2 : c 188 14 = x2)
    (m3 : (x1 = 2) → TM d 252 [aR 188, aI v3, aI v4, aI x2] (G, c) (fun r h' => T (d + 1) 256 287 [some (aR 188), none, none, none, none] (r.toList ++ []) h' Q))
    (m4 : (¬ x1 = 2) → TM d 173 [aR 188, aI 1] (G, c) (fun r h' => T (d + 1) 256 275 [none, none, none, none, none] (r.toList ++ []) h' Q)) :
    T (d + 1) 256 262 [some (aR 188), none, none, some (aI v3), some (aI v4)] [] (G, c) Q := by
  refine e_L (L' := [some (aR 188), none, none, some (aI v3), some (aI v4)]) (st' := [aR 188]) (show decode (mC 256) 262 = .ok (.aload_n 0, 1) by decide +kernel) rfl (by show (if 188 = 0 then none else some (_, _)) = _; rw [if_neg (by decide)]) ?_
  refine e_getIx (show decode (mC 256) 263 = .ok (.getfield 152, 3) by decide +kernel) (show pl 12 152 = some (0, 12, 11, 0) by decide +kernel) (by decide) (sh_ok hG (by decide +kernel)) ex1 ?_
  refine e_P (st' := [aI 2, aI x1]) (show decode (mC 256) 266 = .ok (.iconst 2, 1) by decide +kernel) rfl rfl rfl ?_
  refine e_eq2 (t := 276) (show decode (mC 256) 267 = .ok (.if_icmp .eq 9, 3) by decide +kernel) (by decide) s1 (by decide) (fun p1 => ?_) (fun p1 => ?_)
  · refine e_L (L' := [some (aR 188), none, none, some (aI v3), some (aI v4)]) (st' := [aR 188]) (show decode (mC 256) 276 = .ok (.aload_n 0, 1) by decide +kernel) rfl (by show (if 188 = 0 then none else some (_, _)) = _; rw [if_neg (by decide)]) ?_
    refine e_L (L' := [some (aR 188), none, none, some (aI v3), some (aI v4)]) (st' := [aI v3, aR 188]) (show decode (mC 256) 277 = .ok (.iload_n 3, 1) by decide +kernel) rfl rfl ?_
    refine e_L (L' := [some (aR 188), none, none, some (aI v3), some (aI v4)]) (st' := [aI v4, aI v3, aR 188]) (show decode (mC 256) 278 = .ok (.iload 4, 2) by decide +kernel) rfl rfl ?_
    refine e_L (L' := [some (aR 188), none, none, some (aI v3), some (aI v4)]) (st' := [aR 188, aI v4, aI v3, aR 188]) (show decode (mC 256) 280 = .ok (.aload_n 0, 1) by decide +kernel) rfl (by show (if 188 = 0 then none else some (_, _)) = _; rw [if_neg (by decide)]) ?_
    refine e_getIx (show decode (mC 256) 281 = .ok (.getfield 162, 3) by decide +kernel) (show pl 12 162 = some (0, 12, 14, 0) by decide +kernel) (by decide) (sh_ok hG (by decide +kernel)) ex2 ?_
    exact e_V (as := [aR 188, aI v3, aI v4, aI x2]) (rest := []) (show decode (mC 256) 284 = .ok (.invokevirtual 384, 3) by decide +kernel) (by decide +kernel) (show (decide ((4 : Nat) = mA 252) && decide (252 < q_law)) = true by decide +kernel) rfl (show (0 : Nat) ≤ 8 by decide) (show (4 : Nat) ≤ mL 252 by decide +kernel) rfl (sh_ok hG (by decide +kernel)) (tm_le hQ (leS (leS (leS (leN (leN leE))))) (m3 p1))
  · refine e_L (L' := [some (aR 188), none, none, some (aI v3), some (aI v4)]) (st' := [aR 188]) (show decode (mC 256) 270 = .ok (.aload_n 0, 1) by decide +kernel) rfl (by show (if 188 = 0 then none else some (_, _)) = _; rw [if_neg (by decide)]) ?_
    refine e_P (st' := [aI 1, aR 188]) (show decode (mC 256) 271 = .ok (.iconst 1, 1) by decide +kernel) rfl rfl rfl ?_
    exact e_V (as := [aR 188, aI 1]) (rest := []) (show decode (mC 256) 272 = .ok (.invokevirtual 178, 3) by decide +kernel) (by decide +kernel) (show (decide ((2 : Nat) = mA 173) && decide (173 < q_law)) = true by decide +kernel) rfl (show (0 : Nat) ≤ 8 by decide) (show (2 : Nat) ≤ mL 173 by decide +kernel) rfl (sh_ok hG (by decide +kernel)) (tm_le hQ (leN (leS (leS (leN (leN leE))))) (m4 p1))
/-- SoulOfficeModel.operand()Z, from 275 -/
theorem b256_275 (hG : Shp G) {u0 : Int}
    (s0 : u0 = 0 ∨ u0 = 1)
    (z1 : Q (.inl (some (aI u0))) (G, c)) :
    T (d + 1) 256 275 [none, none, none, none, none] [aI u0] (G, c) Q := by
  exact e_zret (show decode (mC 256) 275 = .ok (.ireturn, 1) by decide +kernel) rfl s0 z1
/-- SoulOfficeModel.operand()Z, from 287 -/
theorem b256_287 (hG : Shp G) (hQ : ∀ o o' h', q_eqo o o' → Q o h' → Q o' h')
    (m0 : TM d 172 [aR 188] (G, c) (fun r h' => T (d + 1) 256 291 [none, none, none, none, none] (r.toList ++ []) h' Q)) :
    T (d + 1) 256 287 [some (aR 188), none, none, none, none] [] (G, c) Q := by
  refine e_L (L' := [some (aR 188), none, none, none, none]) (st' := [aR 188]) (show decode (mC 256) 287 = .ok (.aload_n 0, 1) by decide +kernel) rfl (by show (if 188 = 0 then none else some (_, _)) = _; rw [if_neg (by decide)]) ?_
  exact e_V (as := [aR 188]) (rest := []) (show decode (mC 256) 288 = .ok (.invokevirtual 181, 3) by decide +kernel) (by decide +kernel) (show (decide ((1 : Nat) = mA 172) && decide (172 < q_law)) = true by decide +kernel) rfl (show (0 : Nat) ≤ 8 by decide) (show (1 : Nat) ≤ mL 172 by decide +kernel) rfl (sh_ok hG (by decide +kernel)) (tm_le hQ (leN (leS (leS (leS (leS leE))))) m0)
/-- SoulOfficeModel.operand()Z, from 291 -/
theorem b256_291 (hG : Shp G)
    (z0 : Q (.inl (some (aI 1))) (G, c)) :
    T (d + 1) 256 291 [none, none, none, none, none] [] (G, c) Q := by
  refine e_P (st' := [aI 1]) (show decode (mC 256) 291 = .ok (.iconst 1, 1) by decide +kernel) rfl rfl rfl ?_
  exact e_zret (show decode (mC 256) 292 = .ok (.ireturn, 1) by decide +kernel) rfl (by decide) z0
/-- SoulOfficeModel.behind()Z, from 0 -/
theorem b257_0 (hG : Shp G)
    (m0 : TM d 254 [aR 188] (G, c) (fun r h' => T (d + 1) 257 4 [some (aR 188)] (r.toList ++ []) h' Q)) :
    T (d + 1) 257 0 [some (aR 188)] [] (G, c) Q := by
  refine e_L (L' := [some (aR 188)]) (st' := [aR 188]) (show decode (mC 257) 0 = .ok (.aload_n 0, 1) by decide +kernel) rfl (by show (if 188 = 0 then none else some (_, _)) = _; rw [if_neg (by decide)]) ?_
  exact e_V (as := [aR 188]) (rest := []) (show decode (mC 257) 1 = .ok (.invokevirtual 400, 3) by decide +kernel) (by decide +kernel) (show (decide ((1 : Nat) = mA 254) && decide (254 < q_law)) = true by decide +kernel) rfl (show (0 : Nat) ≤ 8 by decide) (show (1 : Nat) ≤ mL 254 by decide +kernel) rfl (sh_ok hG (by decide +kernel)) m0
/-- SoulOfficeModel.behind()Z, from 4 -/
theorem b257_4 (hG : Shp G)
    (m0 : TM d 174 [aR 188, aL 6385252] (G, c) (fun r h' => T (d + 1) 257 11 [some (aR 188)] (r.toList ++ []) h' Q)) :
    T (d + 1) 257 4 [some (aR 188)] [] (G, c) Q := by
  refine e_L (L' := [some (aR 188)]) (st' := [aR 188]) (show decode (mC 257) 4 = .ok (.aload_n 0, 1) by decide +kernel) rfl (by show (if 188 = 0 then none else some (_, _)) = _; rw [if_neg (by decide)]) ?_
  refine e_ldc2 (show decode (mC 257) 5 = .ok (.ldc2_w 124, 3) by decide +kernel) (show pl 12 124 = some (9, 0, 0, 6385252) by decide +kernel) ?_
  exact e_V (as := [aR 188, aL 6385252]) (rest := []) (show decode (mC 257) 8 = .ok (.invokevirtual 203, 3) by decide +kernel) (by decide +kernel) (show (decide ((2 : Nat) = mA 174) && decide (174 < q_law)) = true by decide +kernel) rfl (show (0 : Nat) ≤ 8 by decide) (show (3 : Nat) ≤ mL 174 by decide +kernel) rfl (sh_ok hG (by decide +kernel)) m0
/-- SoulOfficeModel.behind()Z, from 11 -/
theorem b257_11 (hG : Shp G) {u0 : Int}
    (s0 : -2147483648 ≤ u0 ∧ u0 < 2147483648)
    (m1 : (¬ u0 = 0) → TM d 174 [aR 188, aL 6385252] (G, c) (fun r h' => T (d + 1) 257 32 [some (aR 188)] (r.toList ++ [aR 188]) h' Q))
    (m2 : (u0 = 0) → TM d 174 [aR 188, aL 28530] (G, c) (fun r h' => T (d + 1) 257 21 [some (aR 188)] (r.toList ++ []) h' Q)) :
    T (d + 1) 257 11 [some (aR 188)] [aI u0] (G, c) Q := by
  refine e_ne1 (t := 24) (show decode (mC 257) 11 = .ok (.ifCond .ne 13, 3) by decide +kernel) (by decide) s0 (fun p1 => ?_) (fun p1 => ?_)
  · refine e_L (L' := [some (aR 188)]) (st' := [aR 188]) (show decode (mC 257) 24 = .ok (.aload_n 0, 1) by decide +kernel) rfl (by show (if 188 = 0 then none else some (_, _)) = _; rw [if_neg (by decide)]) ?_
    refine e_L (L' := [some (aR 188)]) (st' := [aR 188, aR 188]) (show decode (mC 257) 25 = .ok (.aload_n 0, 1) by decide +kernel) rfl (by show (if 188 = 0 then none else some (_, _)) = _; rw [if_neg (by decide)]) ?_
    refine e_ldc2 (show decode (mC 257) 26 = .ok (.ldc2_w 124, 3) by decide +kernel) (show pl 12 124 = some (9, 0, 0, 6385252) by decide +kernel) ?_
    exact e_V (as := [aR 188, aL 6385252]) (rest := [aR 188]) (show decode (mC 257) 29 = .ok (.invokevirtual 203, 3) by decide +kernel) (by decide +kernel) (show (decide ((2 : Nat) = mA 174) && decide (174 < q_law)) = true by decide +kernel) rfl (show (1 : Nat) ≤ 8 by decide) (show (3 : Nat) ≤ mL 174 by decide +kernel) rfl (sh_ok hG (by decide +kernel)) (m1 p1)
  · refine e_L (L' := [some (aR 188)]) (st' := [aR 188]) (show decode (mC 257) 14 = .ok (.aload_n 0, 1) by decide +kernel) rfl (by show (if 188 = 0 then none else some (_, _)) = _; rw [if_neg (by decide)]) ?_
    refine e_ldc2 (show decode (mC 257) 15 = .ok (.ldc2_w 122, 3) by decide +kernel) (show pl 12 122 = some (9, 0, 0, 28530) by decide +kernel) ?_
    exact e_V (as := [aR 188, aL 28530]) (rest := []) (show decode (mC 257) 18 = .ok (.invokevirtual 203, 3) by decide +kernel) (by decide +kernel) (show (decide ((2 : Nat) = mA 174) && decide (174 < q_law)) = true by decide +kernel) rfl (show (0 : Nat) ≤ 8 by decide) (show (3 : Nat) ≤ mL 174 by decide +kernel) rfl (sh_ok hG (by decide +kernel)) (m2 p1)
/-- SoulOfficeModel.behind()Z, from 21 -/
theorem b257_21 (hG : Shp G) {u0 : Int}
    (s0 : -2147483648 ≤ u0 ∧ u0 < 2147483648)
    (m1 : (u0 = 0) → TM d 253 [aR 188, aI 22] (G, c) (fun r h' => T (d + 1) 257 98 [some (aR 188)] (r.toList ++ []) h' Q))
    (m2 : (¬ u0 = 0) → TM d 174 [aR 188, aL 6385252] (G, c) (fun r h' => T (d + 1) 257 32 [some (aR 188)] (r.toList ++ [aR 188]) h' Q)) :
    T (d + 1) 257 21 [some (aR 188)] [aI u0] (G, c) Q := by
  refine e_eq1 (t := 92) (show decode (mC 257) 21 = .ok (.ifCond .eq 71, 3) by decide +kernel) (by decide) s0 (fun p1 => ?_) (fun p1 => ?_)
  · refine e_L (L' := [some (aR 188)]) (st' := [aR 188]) (show decode (mC 257) 92 = .ok (.aload_n 0, 1) by decide +kernel) rfl (by show (if 188 = 0 then none else some (_, _)) = _; rw [if_neg (by decide)]) ?_
    refine e_P (st' := [aI 22, aR 188]) (show decode (mC 257) 93 = .ok (.bipush 22, 2) by decide +kernel) rfl rfl rfl ?_
    exact e_V (as := [aR 188, aI 22]) (rest := []) (show decode (mC 257) 95 = .ok (.invokevirtual 403, 3) by decide +kernel) (by decide +kernel) (show (decide ((2 : Nat) = mA 253) && decide (253 < q_law)) = true by decide +kernel) rfl (show (0 : Nat) ≤ 8 by decide) (show (2 : Nat) ≤ mL 253 by decide +kernel) rfl (sh_ok hG (by decide +kernel)) (m1 p1)
  · refine e_L (L' := [some (aR 188)]) (st' := [aR 188]) (show decode (mC 257) 24 = .ok (.aload_n 0, 1) by decide +kernel) rfl (by show (if 188 = 0 then none else some (_, _)) = _; rw [if_neg (by decide)]) ?_
    refine e_L (L' := [some (aR 188)]) (st' := [aR 188, aR 188]) (show decode (mC 257) 25 = .ok (.aload_n 0, 1) by decide +kernel) rfl (by show (if 188 = 0 then none else some (_, _)) = _; rw [if_neg (by decide)]) ?_
    refine e_ldc2 (show decode (mC 257) 26 = .ok (.ldc2_w 124, 3) by decide +kernel) (show pl 12 124 = some (9, 0, 0, 6385252) by decide +kernel) ?_
    exact e_V (as := [aR 188, aL 6385252]) (rest := [aR 188]) (show decode (mC 257) 29 = .ok (.invokevirtual 203, 3) by decide +kernel) (by decide +kernel) (show (decide ((2 : Nat) = mA 174) && decide (174 < q_law)) = true by decide +kernel) rfl (show (1 : Nat) ≤ 8 by decide) (show (3 : Nat) ≤ mL 174 by decide +kernel) rfl (sh_ok hG (by decide +kernel)) (m2 p1)
/-- SoulOfficeModel.behind()Z, from 32 -/
theorem b257_32 (hG : Shp G) {u1 : Int}
    (s0 : -2147483648 ≤ u1 ∧ u1 < 2147483648)
    (m1 : (u1 = 0) → TM d 253 [aR 188, aI 22] (G, c) (fun r h' => T (d + 1) 257 45 [some (aR 188)] (r.toList ++ []) h' Q))
    (m2 : (¬ u1 = 0) → TM d 253 [aR 188, aI 21] (G, c) (fun r h' => T (d + 1) 257 45 [some (aR 188)] (r.toList ++ []) h' Q)) :
    T (d + 1) 257 32 [some (aR 188)] [aI u1, aR 188] (G, c) Q := by
  refine e_eq1 (t := 40) (show decode (mC 257) 32 = .ok (.ifCond .eq 8, 3) by decide +kernel) (by decide) s0 (fun p1 => ?_) (fun p1 => ?_)
  · refine e_P (st' := [aI 22, aR 188]) (show decode (mC 257) 40 = .ok (.bipush 22, 2) by decide +kernel) rfl rfl rfl ?_
    exact e_V (as := [aR 188, aI 22]) (rest := []) (show decode (mC 257) 42 = .ok (.invokevirtual 403, 3) by decide +kernel) (by decide +kernel) (show (decide ((2 : Nat) = mA 253) && decide (253 < q_law)) = true by decide +kernel) rfl (show (0 : Nat) ≤ 8 by decide) (show (2 : Nat) ≤ mL 253 by decide +kernel) rfl (sh_ok hG (by decide +kernel)) (m1 p1)
  · refine e_P (st' := [aI 21, aR 188]) (show decode (mC 257) 35 = .ok (.bipush 21, 2) by decide +kernel) rfl rfl rfl ?_
    refine e_go (t := 42) (show decode (mC 257) 37 = .ok (.goto 5, 3) by decide +kernel) (by decide) ?_
    exact e_V (as := [aR 188, aI 21]) (rest := []) (show decode (mC 257) 42 = .ok (.invokevirtual 403, 3) by decide +kernel) (by decide +kernel) (show (decide ((2 : Nat) = mA 253) && decide (253 < q_law)) = true by decide +kernel) rfl (show (0 : Nat) ≤ 8 by decide) (show (2 : Nat) ≤ mL 253 by decide +kernel) rfl (sh_ok hG (by decide +kernel)) (m2 p1)
/-- SoulOfficeModel.behind()Z, from 45 -/
theorem b257_45 (hG : Shp G) {x1 : Int}
    (ex1 : c 188 42 = x1)
    (m1 : TM d 174 [aR 188, aL 6385252] (G, c) (fun r h' => T (d + 1) 257 60 [some (aR 188)] (r.toList ++ [aI x1, aR 206]) h' Q)) :
    T (d + 1) 257 45 [some (aR 188)] [] (G, c) Q := by
  refine e_L (L' := [some (aR 188)]) (st' := [aR 188]) (show decode (mC 257) 45 = .ok (.aload_n 0, 1) by decide +kernel) rfl (by show (if 188 = 0 then none else some (_, _)) = _; rw [if_neg (by decide)]) ?_
  refine e_getR (w := 206) (show decode (mC 257) 46 = .ok (.getfield 86, 3) by decide +kernel) (show pl 12 86 = some (0, 12, 39, 0) by decide +kernel) (by decide) (sh_ok hG (by decide +kernel)) (sh_rf hG (by decide +kernel)) ?_
  refine e_L (L' := [some (aR 188)]) (st' := [aR 188, aR 206]) (show decode (mC 257) 49 = .ok (.aload_n 0, 1) by decide +kernel) rfl (by show (if 188 = 0 then none else some (_, _)) = _; rw [if_neg (by decide)]) ?_
  refine e_getIx (show decode (mC 257) 50 = .ok (.getfield 381, 3) by decide +kernel) (show pl 12 381 = some (0, 12, 42, 0) by decide +kernel) (by decide) (sh_ok hG (by decide +kernel)) ex1 ?_
  refine e_L (L' := [some (aR 188)]) (st' := [aR 188, aI x1, aR 206]) (show decode (mC 257) 53 = .ok (.aload_n 0, 1) by decide +kernel) rfl (by show (if 188 = 0 then none else some (_, _)) = _; rw [if_neg (by decide)]) ?_
  refine e_ldc2 (show decode (mC 257) 54 = .ok (.ldc2_w 124, 3) by decide +kernel) (show pl 12 124 = some (9, 0, 0, 6385252) by decide +kernel) ?_
  exact e_V (as := [aR 188, aL 6385252]) (rest := [aI x1, aR 206]) (show decode (mC 257) 57 = .ok (.invokevirtual 203, 3) by decide +kernel) (by decide +kernel) (show (decide ((2 : Nat) = mA 174) && decide (174 < q_law)) = true by decide +kernel) rfl (show (2 : Nat) ≤ 8 by decide) (show (3 : Nat) ≤ mL 174 by decide +kernel) rfl (sh_ok hG (by decide +kernel)) m1
/-- SoulOfficeModel.behind()Z, from 60 -/
theorem b257_60 (hG : Shp G) {u1 u2 x1 x2 : Int} (hQ : ∀ o o' h', q_eqo o o' → Q o h' → Q o' h')
    (s0 : -2147483648 ≤ u2 ∧ u2 < 2147483648)
    (s1 : (u2 = 0) → 0 ≤ u1)
    (s2 : (u2 = 0) → u1 < 45)
    (ex1 : (q_up c 206 u1 22) 188 42 = x1)
    (m4 : (u2 = 0) → TM d 172 [aR 188] (G, (q_up (q_up (q_up c 206 u1 22) 188 42 (x1 + 1)) 188 44 0)) (fun r h' => T (d + 1) 257 90 [none] (r.toList ++ []) h' Q))
    (s5 : (¬ u2 = 0) → 0 ≤ u1)
    (s6 : (¬ u2 = 0) → u1 < 45)
    (ex2 : (q_up c 206 u1 21) 188 42 = x2)
    (m8 : (¬ u2 = 0) → TM d 172 [aR 188] (G, (q_up (q_up (q_up c 206 u1 21) 188 42 (x2 + 1)) 188 44 0)) (fun r h' => T (d + 1) 257 90 [none] (r.toList ++ []) h' Q)) :
    T (d + 1) 257 60 [some (aR 188)] [aI u2, aI u1, aR 206] (G, c) Q := by
  refine e_eq1 (t := 68) (show decode (mC 257) 60 = .ok (.ifCond .eq 8, 3) by decide +kernel) (by decide) s0 (fun p1 => ?_) (fun p1 => ?_)
  · refine e_P (st' := [aI 22, aI u1, aR 206]) (show decode (mC 257) 68 = .ok (.bipush 22, 2) by decide +kernel) rfl rfl rfl ?_
    refine e_iast (n := 45) (show decode (mC 257) 70 = .ok (.iastore, 1) by decide +kernel) (sh_ok hG (by decide +kernel)) (sh_ln hG (by decide +kernel)) (by decide) (s1 p1) (s2 p1) ?_
    refine e_L (L' := [some (aR 188)]) (st' := [aR 188]) (show decode (mC 257) 71 = .ok (.aload_n 0, 1) by decide +kernel) rfl (by show (if 188 = 0 then none else some (_, _)) = _; rw [if_neg (by decide)]) ?_
    refine e_P (st' := [aR 188, aR 188]) (show decode (mC 257) 72 = .ok (.dup, 1) by decide +kernel) rfl rfl rfl ?_
    refine e_getIx (show decode (mC 257) 73 = .ok (.getfield 381, 3) by decide +kernel) (show pl 12 381 = some (0, 12, 42, 0) by decide +kernel) (by decide) (sh_ok hG (by decide +kernel)) ex1 ?_
    refine e_P (st' := [aI 1, aI x1, aR 188]) (show decode (mC 257) 76 = .ok (.iconst 1, 1) by decide +kernel) rfl rfl rfl ?_
    refine e_P (st' := [aI (x1 + 1), aR 188]) (show decode (mC 257) 77 = .ok (.iadd, 1) by decide +kernel) rfl rfl rfl ?_
    refine e_putI (show decode (mC 257) 78 = .ok (.putfield 381, 3) by decide +kernel) (show pl 12 381 = some (0, 12, 42, 0) by decide +kernel) (by decide) (sh_ok hG (by decide +kernel)) ?_
    refine e_L (L' := [some (aR 188)]) (st' := [aR 188]) (show decode (mC 257) 81 = .ok (.aload_n 0, 1) by decide +kernel) rfl (by show (if 188 = 0 then none else some (_, _)) = _; rw [if_neg (by decide)]) ?_
    refine e_P (st' := [aI 0, aR 188]) (show decode (mC 257) 82 = .ok (.iconst 0, 1) by decide +kernel) rfl rfl rfl ?_
    refine e_putZ (show decode (mC 257) 83 = .ok (.putfield 397, 3) by decide +kernel) (show pl 12 397 = some (0, 12, 44, 0) by decide +kernel) (by decide) (sh_ok hG (by decide +kernel)) (by decide) ?_
    refine e_L (L' := [some (aR 188)]) (st' := [aR 188]) (show decode (mC 257) 86 = .ok (.aload_n 0, 1) by decide +kernel) rfl (by show (if 188 = 0 then none else some (_, _)) = _; rw [if_neg (by decide)]) ?_
    exact e_V (as := [aR 188]) (rest := []) (show decode (mC 257) 87 = .ok (.invokevirtual 181, 3) by decide +kernel) (by decide +kernel) (show (decide ((1 : Nat) = mA 172) && decide (172 < q_law)) = true by decide +kernel) rfl (show (0 : Nat) ≤ 8 by decide) (show (1 : Nat) ≤ mL 172 by decide +kernel) rfl (sh_ok hG (by decide +kernel)) (tm_le hQ (leN leE) (m4 p1))
  · refine e_P (st' := [aI 21, aI u1, aR 206]) (show decode (mC 257) 63 = .ok (.bipush 21, 2) by decide +kernel) rfl rfl rfl ?_
    refine e_go (t := 70) (show decode (mC 257) 65 = .ok (.goto 5, 3) by decide +kernel) (by decide) ?_
    refine e_iast (n := 45) (show decode (mC 257) 70 = .ok (.iastore, 1) by decide +kernel) (sh_ok hG (by decide +kernel)) (sh_ln hG (by decide +kernel)) (by decide) (s5 p1) (s6 p1) ?_
    refine e_L (L' := [some (aR 188)]) (st' := [aR 188]) (show decode (mC 257) 71 = .ok (.aload_n 0, 1) by decide +kernel) rfl (by show (if 188 = 0 then none else some (_, _)) = _; rw [if_neg (by decide)]) ?_
    refine e_P (st' := [aR 188, aR 188]) (show decode (mC 257) 72 = .ok (.dup, 1) by decide +kernel) rfl rfl rfl ?_
    refine e_getIx (show decode (mC 257) 73 = .ok (.getfield 381, 3) by decide +kernel) (show pl 12 381 = some (0, 12, 42, 0) by decide +kernel) (by decide) (sh_ok hG (by decide +kernel)) ex2 ?_
    refine e_P (st' := [aI 1, aI x2, aR 188]) (show decode (mC 257) 76 = .ok (.iconst 1, 1) by decide +kernel) rfl rfl rfl ?_
    refine e_P (st' := [aI (x2 + 1), aR 188]) (show decode (mC 257) 77 = .ok (.iadd, 1) by decide +kernel) rfl rfl rfl ?_
    refine e_putI (show decode (mC 257) 78 = .ok (.putfield 381, 3) by decide +kernel) (show pl 12 381 = some (0, 12, 42, 0) by decide +kernel) (by decide) (sh_ok hG (by decide +kernel)) ?_
    refine e_L (L' := [some (aR 188)]) (st' := [aR 188]) (show decode (mC 257) 81 = .ok (.aload_n 0, 1) by decide +kernel) rfl (by show (if 188 = 0 then none else some (_, _)) = _; rw [if_neg (by decide)]) ?_
    refine e_P (st' := [aI 0, aR 188]) (show decode (mC 257) 82 = .ok (.iconst 0, 1) by decide +kernel) rfl rfl rfl ?_
    refine e_putZ (show decode (mC 257) 83 = .ok (.putfield 397, 3) by decide +kernel) (show pl 12 397 = some (0, 12, 44, 0) by decide +kernel) (by decide) (sh_ok hG (by decide +kernel)) (by decide) ?_
    refine e_L (L' := [some (aR 188)]) (st' := [aR 188]) (show decode (mC 257) 86 = .ok (.aload_n 0, 1) by decide +kernel) rfl (by show (if 188 = 0 then none else some (_, _)) = _; rw [if_neg (by decide)]) ?_
    exact e_V (as := [aR 188]) (rest := []) (show decode (mC 257) 87 = .ok (.invokevirtual 181, 3) by decide +kernel) (by decide +kernel) (show (decide ((1 : Nat) = mA 172) && decide (172 < q_law)) = true by decide +kernel) rfl (show (0 : Nat) ≤ 8 by decide) (show (1 : Nat) ≤ mL 172 by decide +kernel) rfl (sh_ok hG (by decide +kernel)) (tm_le hQ (leN leE) (m8 p1))
/-- SoulOfficeModel.behind()Z, from 90 -/
theorem b257_90 (hG : Shp G)
    (z0 : Q (.inl (some (aI 1))) (G, c)) :
    T (d + 1) 257 90 [none] [] (G, c) Q := by
  refine e_P (st' := [aI 1]) (show decode (mC 257) 90 = .ok (.iconst 1, 1) by decide +kernel) rfl rfl rfl ?_
  exact e_zret (show decode (mC 257) 91 = .ok (.ireturn, 1) by decide +kernel) rfl (by decide) z0
/-- SoulOfficeModel.behind()Z, from 98 -/
theorem b257_98 (hG : Shp G)
    (m0 : TM d 175 [aR 188, aI 41] (G, c) (fun r h' => T (d + 1) 257 104 [some (aR 188)] (r.toList ++ []) h' Q)) :
    T (d + 1) 257 98 [some (aR 188)] [] (G, c) Q := by
  refine e_L (L' := [some (aR 188)]) (st' := [aR 188]) (show decode (mC 257) 98 = .ok (.aload_n 0, 1) by decide +kernel) rfl (by show (if 188 = 0 then none else some (_, _)) = _; rw [if_neg (by decide)]) ?_
  refine e_P (st' := [aI 41, aR 188]) (show decode (mC 257) 99 = .ok (.bipush 41, 2) by decide +kernel) rfl rfl rfl ?_
  exact e_V (as := [aR 188, aI 41]) (rest := []) (show decode (mC 257) 101 = .ok (.invokevirtual 175, 3) by decide +kernel) (by decide +kernel) (show (decide ((2 : Nat) = mA 175) && decide (175 < q_law)) = true by decide +kernel) rfl (show (0 : Nat) ≤ 8 by decide) (show (2 : Nat) ≤ mL 175 by decide +kernel) rfl (sh_ok hG (by decide +kernel)) m0
/-- SoulOfficeModel.behind()Z, from 104 -/
theorem b257_104 (hG : Shp G) {u0 x1 x2 x3 : Int} (hQ : ∀ o o' h', q_eqo o o' → Q o h' → Q o' h')
    (s0 : -2147483648 ≤ u0 ∧ u0 < 2147483648)
    (m1 : (u0 = 0) → TM d 173 [aR 188, aI 1] (G, c) (fun r h' => T (d + 1) 257 119 [none] (r.toList ++ []) h' Q))
    (ex1 : c 188 42 = x1)
    (s3 : (¬ u0 = 0) → -2147483648 ≤ x1 ∧ x1 < 2147483648)
    (ex2 : c 188 42 = x2)
    (ex3 : (q_up c 188 42 (x2 - 1)) 188 43 = x3)
    (m6 : (¬ u0 = 0) → (¬ x1 = 0) → TM d 172 [aR 188] (G, (q_up (q_up c 188 42 (x2 - 1)) 188 43 (x3 - 1))) (fun r h' => T (d + 1) 257 144 [none] (r.toList ++ []) h' Q))
    (m7 : (¬ u0 = 0) → (x1 = 0) → TM d 173 [aR 188, aI 1] (G, c) (fun r h' => T (d + 1) 257 119 [none] (r.toList ++ []) h' Q)) :
    T (d + 1) 257 104 [some (aR 188)] [aI u0] (G, c) Q := by
  refine e_eq1 (t := 114) (show decode (mC 257) 104 = .ok (.ifCond .eq 10, 3) by decide +kernel) (by decide) s0 (fun p1 => ?_) (fun p1 => ?_)
  · refine e_L (L' := [some (aR 188)]) (st' := [aR 188]) (show decode (mC 257) 114 = .ok (.aload_n 0, 1) by decide +kernel) rfl (by show (if 188 = 0 then none else some (_, _)) = _; rw [if_neg (by decide)]) ?_
    refine e_P (st' := [aI 1, aR 188]) (show decode (mC 257) 115 = .ok (.iconst 1, 1) by decide +kernel) rfl rfl rfl ?_
    exact e_V (as := [aR 188, aI 1]) (rest := []) (show decode (mC 257) 116 = .ok (.invokevirtual 178, 3) by decide +kernel) (by decide +kernel) (show (decide ((2 : Nat) = mA 173) && decide (173 < q_law)) = true by decide +kernel) rfl (show (0 : Nat) ≤ 8 by decide) (show (2 : Nat) ≤ mL 173 by decide +kernel) rfl (sh_ok hG (by decide +kernel)) (tm_le hQ (leN leE) (m1 p1))
  · refine e_L (L' := [some (aR 188)]) (st' := [aR 188]) (show decode (mC 257) 107 = .ok (.aload_n 0, 1) by decide +kernel) rfl (by show (if 188 = 0 then none else some (_, _)) = _; rw [if_neg (by decide)]) ?_
    refine e_getIx (show decode (mC 257) 108 = .ok (.getfield 381, 3) by decide +kernel) (show pl 12 381 = some (0, 12, 42, 0) by decide +kernel) (by decide) (sh_ok hG (by decide +kernel)) ex1 ?_
    refine e_ne1 (t := 120) (show decode (mC 257) 111 = .ok (.ifCond .ne 9, 3) by decide +kernel) (by decide) (s3 p1) (fun p2 => ?_) (fun p2 => ?_)
    · refine e_L (L' := [some (aR 188)]) (st' := [aR 188]) (show decode (mC 257) 120 = .ok (.aload_n 0, 1) by decide +kernel) rfl (by show (if 188 = 0 then none else some (_, _)) = _; rw [if_neg (by decide)]) ?_
      refine e_P (st' := [aR 188, aR 188]) (show decode (mC 257) 121 = .ok (.dup, 1) by decide +kernel) rfl rfl rfl ?_
      refine e_getIx (show decode (mC 257) 122 = .ok (.getfield 381, 3) by decide +kernel) (show pl 12 381 = some (0, 12, 42, 0) by decide +kernel) (by decide) (sh_ok hG (by decide +kernel)) ex2 ?_
      refine e_P (st' := [aI 1, aI x2, aR 188]) (show decode (mC 257) 125 = .ok (.iconst 1, 1) by decide +kernel) rfl rfl rfl ?_
      refine e_P (st' := [aI (x2 - 1), aR 188]) (show decode (mC 257) 126 = .ok (.isub, 1) by decide +kernel) rfl rfl rfl ?_
      refine e_putI (show decode (mC 257) 127 = .ok (.putfield 381, 3) by decide +kernel) (show pl 12 381 = some (0, 12, 42, 0) by decide +kernel) (by decide) (sh_ok hG (by decide +kernel)) ?_
      refine e_L (L' := [some (aR 188)]) (st' := [aR 188]) (show decode (mC 257) 130 = .ok (.aload_n 0, 1) by decide +kernel) rfl (by show (if 188 = 0 then none else some (_, _)) = _; rw [if_neg (by decide)]) ?_
      refine e_P (st' := [aR 188, aR 188]) (show decode (mC 257) 131 = .ok (.dup, 1) by decide +kernel) rfl rfl rfl ?_
      refine e_getIx (show decode (mC 257) 132 = .ok (.getfield 388, 3) by decide +kernel) (show pl 12 388 = some (0, 12, 43, 0) by decide +kernel) (by decide) (sh_ok hG (by decide +kernel)) ex3 ?_
      refine e_P (st' := [aI 1, aI x3, aR 188]) (show decode (mC 257) 135 = .ok (.iconst 1, 1) by decide +kernel) rfl rfl rfl ?_
      refine e_P (st' := [aI (x3 - 1), aR 188]) (show decode (mC 257) 136 = .ok (.isub, 1) by decide +kernel) rfl rfl rfl ?_
      refine e_putI (show decode (mC 257) 137 = .ok (.putfield 388, 3) by decide +kernel) (show pl 12 388 = some (0, 12, 43, 0) by decide +kernel) (by decide) (sh_ok hG (by decide +kernel)) ?_
      refine e_L (L' := [some (aR 188)]) (st' := [aR 188]) (show decode (mC 257) 140 = .ok (.aload_n 0, 1) by decide +kernel) rfl (by show (if 188 = 0 then none else some (_, _)) = _; rw [if_neg (by decide)]) ?_
      exact e_V (as := [aR 188]) (rest := []) (show decode (mC 257) 141 = .ok (.invokevirtual 181, 3) by decide +kernel) (by decide +kernel) (show (decide ((1 : Nat) = mA 172) && decide (172 < q_law)) = true by decide +kernel) rfl (show (0 : Nat) ≤ 8 by decide) (show (1 : Nat) ≤ mL 172 by decide +kernel) rfl (sh_ok hG (by decide +kernel)) (tm_le hQ (leN leE) (m6 p1 p2))
    · refine e_L (L' := [some (aR 188)]) (st' := [aR 188]) (show decode (mC 257) 114 = .ok (.aload_n 0, 1) by decide +kernel) rfl (by show (if 188 = 0 then none else some (_, _)) = _; rw [if_neg (by decide)]) ?_
      refine e_P (st' := [aI 1, aR 188]) (show decode (mC 257) 115 = .ok (.iconst 1, 1) by decide +kernel) rfl rfl rfl ?_
      exact e_V (as := [aR 188, aI 1]) (rest := []) (show decode (mC 257) 116 = .ok (.invokevirtual 178, 3) by decide +kernel) (by decide +kernel) (show (decide ((2 : Nat) = mA 173) && decide (173 < q_law)) = true by decide +kernel) rfl (show (0 : Nat) ≤ 8 by decide) (show (2 : Nat) ≤ mL 173 by decide +kernel) rfl (sh_ok hG (by decide +kernel)) (tm_le hQ (leN leE) (m7 p1 p2))
/-- SoulOfficeModel.behind()Z, from 119 -/
theorem b257_119 (hG : Shp G) {u0 : Int}
    (s0 : u0 = 0 ∨ u0 = 1)
    (z1 : Q (.inl (some (aI u0))) (G, c)) :
    T (d + 1) 257 119 [none] [aI u0] (G, c) Q := by
  exact e_zret (show decode (mC 257) 119 = .ok (.ireturn, 1) by decide +kernel) rfl s0 z1
/-- SoulOfficeModel.behind()Z, from 144 -/
theorem b257_144 (hG : Shp G)
    (z0 : Q (.inl (some (aI 1))) (G, c)) :
    T (d + 1) 257 144 [none] [] (G, c) Q := by
  refine e_P (st' := [aI 1]) (show decode (mC 257) 144 = .ok (.iconst 1, 1) by decide +kernel) rfl rfl rfl ?_
  exact e_zret (show decode (mC 257) 145 = .ok (.ireturn, 1) by decide +kernel) rfl (by decide) z0
/-- SoulOfficeModel.sentence()I, from 0 -/
theorem b258_0 (hG : Shp G)
    (m0 : TM d 163 [aR 188, aI 200] (G, (q_up c 188 0 0)) (fun r h' => T (d + 1) 258 12 [some (aR 188), none, none] (r.toList ++ []) h' Q)) :
    T (d + 1) 258 0 [some (aR 188), none, none] [] (G, c) Q := by
  refine e_L (L' := [some (aR 188), none, none]) (st' := [aR 188]) (show decode (mC 258) 0 = .ok (.aload_n 0, 1) by decide +kernel) rfl (by show (if 188 = 0 then none else some (_, _)) = _; rw [if_neg (by decide)]) ?_
  refine e_P (st' := [aI 0, aR 188]) (show decode (mC 258) 1 = .ok (.iconst 0, 1) by decide +kernel) rfl rfl rfl ?_
  refine e_putI (show decode (mC 258) 2 = .ok (.putfield 1, 3) by decide +kernel) (show pl 12 1 = some (0, 12, 0, 0) by decide +kernel) (by decide) (sh_ok hG (by decide +kernel)) ?_
  refine e_L (L' := [some (aR 188), none, none]) (st' := [aR 188]) (show decode (mC 258) 5 = .ok (.aload_n 0, 1) by decide +kernel) rfl (by show (if 188 = 0 then none else some (_, _)) = _; rw [if_neg (by decide)]) ?_
  refine e_P (st' := [aI 200, aR 188]) (show decode (mC 258) 6 = .ok (.sipush 200, 3) by decide +kernel) rfl rfl rfl ?_
  exact e_V (as := [aR 188, aI 200]) (rest := []) (show decode (mC 258) 9 = .ok (.invokevirtual 226, 3) by decide +kernel) (by decide +kernel) (show (decide ((2 : Nat) = mA 163) && decide (163 < q_law)) = true by decide +kernel) rfl (show (0 : Nat) ≤ 8 by decide) (show (2 : Nat) ≤ mL 163 by decide +kernel) rfl (sh_ok hG (by decide +kernel)) m0
/-- SoulOfficeModel.sentence()I, from 12 -/
theorem b258_12 (hG : Shp G)
    (m0 : TM d 172 [aR 188] (G, (q_up (q_up (q_up (q_up (q_up (q_up c 188 15 0) 188 40 0) 188 41 0) 188 42 0) 188 43 1) 188 44 0)) (fun r h' => T (d + 1) 258 46 [some (aR 188), none, none] (r.toList ++ []) h' Q)) :
    T (d + 1) 258 12 [some (aR 188), none, none] [] (G, c) Q := by
  refine e_L (L' := [some (aR 188), none, none]) (st' := [aR 188]) (show decode (mC 258) 12 = .ok (.aload_n 0, 1) by decide +kernel) rfl (by show (if 188 = 0 then none else some (_, _)) = _; rw [if_neg (by decide)]) ?_
  refine e_P (st' := [aI 0, aR 188]) (show decode (mC 258) 13 = .ok (.iconst 0, 1) by decide +kernel) rfl rfl rfl ?_
  refine e_putI (show decode (mC 258) 14 = .ok (.putfield 169, 3) by decide +kernel) (show pl 12 169 = some (0, 12, 15, 0) by decide +kernel) (by decide) (sh_ok hG (by decide +kernel)) ?_
  refine e_L (L' := [some (aR 188), none, none]) (st' := [aR 188]) (show decode (mC 258) 17 = .ok (.aload_n 0, 1) by decide +kernel) rfl (by show (if 188 = 0 then none else some (_, _)) = _; rw [if_neg (by decide)]) ?_
  refine e_P (st' := [aI 0, aR 188]) (show decode (mC 258) 18 = .ok (.iconst 0, 1) by decide +kernel) rfl rfl rfl ?_
  refine e_putI (show decode (mC 258) 19 = .ok (.putfield 378, 3) by decide +kernel) (show pl 12 378 = some (0, 12, 40, 0) by decide +kernel) (by decide) (sh_ok hG (by decide +kernel)) ?_
  refine e_L (L' := [some (aR 188), none, none]) (st' := [aR 188]) (show decode (mC 258) 22 = .ok (.aload_n 0, 1) by decide +kernel) rfl (by show (if 188 = 0 then none else some (_, _)) = _; rw [if_neg (by decide)]) ?_
  refine e_P (st' := [aI 0, aR 188]) (show decode (mC 258) 23 = .ok (.iconst 0, 1) by decide +kernel) rfl rfl rfl ?_
  refine e_putI (show decode (mC 258) 24 = .ok (.putfield 394, 3) by decide +kernel) (show pl 12 394 = some (0, 12, 41, 0) by decide +kernel) (by decide) (sh_ok hG (by decide +kernel)) ?_
  refine e_L (L' := [some (aR 188), none, none]) (st' := [aR 188]) (show decode (mC 258) 27 = .ok (.aload_n 0, 1) by decide +kernel) rfl (by show (if 188 = 0 then none else some (_, _)) = _; rw [if_neg (by decide)]) ?_
  refine e_P (st' := [aI 0, aR 188]) (show decode (mC 258) 28 = .ok (.iconst 0, 1) by decide +kernel) rfl rfl rfl ?_
  refine e_putI (show decode (mC 258) 29 = .ok (.putfield 381, 3) by decide +kernel) (show pl 12 381 = some (0, 12, 42, 0) by decide +kernel) (by decide) (sh_ok hG (by decide +kernel)) ?_
  refine e_L (L' := [some (aR 188), none, none]) (st' := [aR 188]) (show decode (mC 258) 32 = .ok (.aload_n 0, 1) by decide +kernel) rfl (by show (if 188 = 0 then none else some (_, _)) = _; rw [if_neg (by decide)]) ?_
  refine e_P (st' := [aI 1, aR 188]) (show decode (mC 258) 33 = .ok (.iconst 1, 1) by decide +kernel) rfl rfl rfl ?_
  refine e_putI (show decode (mC 258) 34 = .ok (.putfield 388, 3) by decide +kernel) (show pl 12 388 = some (0, 12, 43, 0) by decide +kernel) (by decide) (sh_ok hG (by decide +kernel)) ?_
  refine e_L (L' := [some (aR 188), none, none]) (st' := [aR 188]) (show decode (mC 258) 37 = .ok (.aload_n 0, 1) by decide +kernel) rfl (by show (if 188 = 0 then none else some (_, _)) = _; rw [if_neg (by decide)]) ?_
  refine e_P (st' := [aI 0, aR 188]) (show decode (mC 258) 38 = .ok (.iconst 0, 1) by decide +kernel) rfl rfl rfl ?_
  refine e_putZ (show decode (mC 258) 39 = .ok (.putfield 397, 3) by decide +kernel) (show pl 12 397 = some (0, 12, 44, 0) by decide +kernel) (by decide) (sh_ok hG (by decide +kernel)) (by decide) ?_
  refine e_L (L' := [some (aR 188), none, none]) (st' := [aR 188]) (show decode (mC 258) 42 = .ok (.aload_n 0, 1) by decide +kernel) rfl (by show (if 188 = 0 then none else some (_, _)) = _; rw [if_neg (by decide)]) ?_
  exact e_V (as := [aR 188]) (rest := []) (show decode (mC 258) 43 = .ok (.invokevirtual 181, 3) by decide +kernel) (by decide +kernel) (show (decide ((1 : Nat) = mA 172) && decide (172 < q_law)) = true by decide +kernel) rfl (show (0 : Nat) ≤ 8 by decide) (show (1 : Nat) ≤ mL 172 by decide +kernel) rfl (sh_ok hG (by decide +kernel)) m0
/-- SoulOfficeModel.sentence()I, from 46 -/
theorem b258_46 (hG : Shp G)
    (k0 : T (d + 1) 258 48 [some (aR 188), some (aI 1), none] [] (G, c) Q) :
    T (d + 1) 258 46 [some (aR 188), none, none] [] (G, c) Q := by
  refine e_P (st' := [aI 1]) (show decode (mC 258) 46 = .ok (.iconst 1, 1) by decide +kernel) rfl rfl rfl ?_
  refine e_L (L' := [some (aR 188), some (aI 1), none]) (st' := []) (show decode (mC 258) 47 = .ok (.istore_n 1, 1) by decide +kernel) rfl rfl ?_
  exact k0
/-- SoulOfficeModel.sentence()I, from 48 -/
theorem b258_48 (hG : Shp G) {v1 x1 x2 x3 x4 x5 : Int} (hQ : ∀ o o' h', q_eqo o o' → Q o h' → Q o' h')
    (s0 : -2147483648 ≤ v1 ∧ v1 < 2147483648)
    (ex1 : c 188 40 = x1)
    (k2 : (v1 = 0) → T (d + 1) 258 146 [some (aR 188), none, some (aI 0)] [] (G, (q_up c 190 333 x1)) Q)
    (ex2 : c 188 44 = x2)
    (s4 : (¬ v1 = 0) → -2147483648 ≤ x2 ∧ x2 < 2147483648)
    (ex3 : c 188 44 = x3)
    (s6 : (¬ v1 = 0) → (x2 = 0) → -2147483648 ≤ x3 ∧ x3 < 2147483648)
    (m7 : (¬ v1 = 0) → (x2 = 0) → (x3 = 0) → TM d 256 [aR 188] (G, c) (fun r h' => T (d + 1) 258 122 [some (aR 188), some (aI v1), none] (r.toList ++ []) h' Q))
    (m8 : (¬ v1 = 0) → (x2 = 0) → (¬ x3 = 0) → TM d 257 [aR 188] (G, c) (fun r h' => T (d + 1) 258 112 [some (aR 188), some (aI v1), none] (r.toList ++ []) h' Q))
    (ex4 : c 188 11 = x4)
    (s10 : (¬ v1 = 0) → (¬ x2 = 0) → -2147483648 ≤ x4 ∧ x4 < 2147483648)
    (ex5 : c 188 44 = x5)
    (s12 : (¬ v1 = 0) → (¬ x2 = 0) → (¬ x4 = 0) → -2147483648 ≤ x5 ∧ x5 < 2147483648)
    (m13 : (¬ v1 = 0) → (¬ x2 = 0) → (¬ x4 = 0) → (x5 = 0) → TM d 256 [aR 188] (G, c) (fun r h' => T (d + 1) 258 122 [some (aR 188), some (aI v1), none] (r.toList ++ []) h' Q))
    (m14 : (¬ v1 = 0) → (¬ x2 = 0) → (¬ x4 = 0) → (¬ x5 = 0) → TM d 257 [aR 188] (G, c) (fun r h' => T (d + 1) 258 112 [some (aR 188), some (aI v1), none] (r.toList ++ []) h' Q))
    (m15 : (¬ v1 = 0) → (¬ x2 = 0) → (x4 = 0) → TM d 254 [aR 188] (G, c) (fun r h' => T (d + 1) 258 70 [some (aR 188), none, none] (r.toList ++ []) h' Q)) :
    T (d + 1) 258 48 [some (aR 188), some (aI v1), none] [] (G, c) Q := by
  refine e_L (L' := [some (aR 188), some (aI v1), none]) (st' := [aI v1]) (show decode (mC 258) 48 = .ok (.iload_n 1, 1) by decide +kernel) rfl rfl ?_
  refine e_eq1 (t := 132) (show decode (mC 258) 49 = .ok (.ifCond .eq 83, 3) by decide +kernel) (by decide) s0 (fun p1 => ?_) (fun p1 => ?_)
  · refine e_L (L' := [some (aR 188), some (aI v1), none]) (st' := [aR 188]) (show decode (mC 258) 132 = .ok (.aload_n 0, 1) by decide +kernel) rfl (by show (if 188 = 0 then none else some (_, _)) = _; rw [if_neg (by decide)]) ?_
    refine e_getR (w := 190) (show decode (mC 258) 133 = .ok (.getfield 33, 3) by decide +kernel) (show pl 12 33 = some (0, 12, 6, 0) by decide +kernel) (by decide) (sh_ok hG (by decide +kernel)) (sh_rf hG (by decide +kernel)) ?_
    refine e_P (st' := [aI 333, aR 190]) (show decode (mC 258) 136 = .ok (.sipush 333, 3) by decide +kernel) rfl rfl rfl ?_
    refine e_L (L' := [some (aR 188), some (aI v1), none]) (st' := [aR 188, aI 333, aR 190]) (show decode (mC 258) 139 = .ok (.aload_n 0, 1) by decide +kernel) rfl (by show (if 188 = 0 then none else some (_, _)) = _; rw [if_neg (by decide)]) ?_
    refine e_getIx (show decode (mC 258) 140 = .ok (.getfield 378, 3) by decide +kernel) (show pl 12 378 = some (0, 12, 40, 0) by decide +kernel) (by decide) (sh_ok hG (by decide +kernel)) ex1 ?_
    refine e_iast (n := 514) (show decode (mC 258) 143 = .ok (.iastore, 1) by decide +kernel) (sh_ok hG (by decide +kernel)) (sh_ln hG (by decide +kernel)) (by decide) (by decide) (by decide) ?_
    refine e_P (st' := [aI 0]) (show decode (mC 258) 144 = .ok (.iconst 0, 1) by decide +kernel) rfl rfl rfl ?_
    refine e_L (L' := [some (aR 188), some (aI v1), some (aI 0)]) (st' := []) (show decode (mC 258) 145 = .ok (.istore_n 2, 1) by decide +kernel) rfl rfl ?_
    exact T_le hQ (leS (leN (leS leE))) (k2 p1)
  · refine e_L (L' := [some (aR 188), some (aI v1), none]) (st' := [aR 188]) (show decode (mC 258) 52 = .ok (.aload_n 0, 1) by decide +kernel) rfl (by show (if 188 = 0 then none else some (_, _)) = _; rw [if_neg (by decide)]) ?_
    refine e_getIx (show decode (mC 258) 53 = .ok (.getfield 397, 3) by decide +kernel) (show pl 12 397 = some (0, 12, 44, 0) by decide +kernel) (by decide) (sh_ok hG (by decide +kernel)) ex2 ?_
    refine e_eq1 (t := 101) (show decode (mC 258) 56 = .ok (.ifCond .eq 45, 3) by decide +kernel) (by decide) (s4 p1) (fun p2 => ?_) (fun p2 => ?_)
    · refine e_L (L' := [some (aR 188), some (aI v1), none]) (st' := [aR 188]) (show decode (mC 258) 101 = .ok (.aload_n 0, 1) by decide +kernel) rfl (by show (if 188 = 0 then none else some (_, _)) = _; rw [if_neg (by decide)]) ?_
      refine e_getIx (show decode (mC 258) 102 = .ok (.getfield 397, 3) by decide +kernel) (show pl 12 397 = some (0, 12, 44, 0) by decide +kernel) (by decide) (sh_ok hG (by decide +kernel)) ex3 ?_
      refine e_eq1 (t := 118) (show decode (mC 258) 105 = .ok (.ifCond .eq 13, 3) by decide +kernel) (by decide) (s6 p1 p2) (fun p3 => ?_) (fun p3 => ?_)
      · refine e_L (L' := [some (aR 188), some (aI v1), none]) (st' := [aR 188]) (show decode (mC 258) 118 = .ok (.aload_n 0, 1) by decide +kernel) rfl (by show (if 188 = 0 then none else some (_, _)) = _; rw [if_neg (by decide)]) ?_
        exact e_V (as := [aR 188]) (rest := []) (show decode (mC 258) 119 = .ok (.invokevirtual 409, 3) by decide +kernel) (by decide +kernel) (show (decide ((1 : Nat) = mA 256) && decide (256 < q_law)) = true by decide +kernel) rfl (show (0 : Nat) ≤ 8 by decide) (show (1 : Nat) ≤ mL 256 by decide +kernel) rfl (sh_ok hG (by decide +kernel)) (m7 p1 p2 p3)
      · refine e_L (L' := [some (aR 188), some (aI v1), none]) (st' := [aR 188]) (show decode (mC 258) 108 = .ok (.aload_n 0, 1) by decide +kernel) rfl (by show (if 188 = 0 then none else some (_, _)) = _; rw [if_neg (by decide)]) ?_
        exact e_V (as := [aR 188]) (rest := []) (show decode (mC 258) 109 = .ok (.invokevirtual 406, 3) by decide +kernel) (by decide +kernel) (show (decide ((1 : Nat) = mA 257) && decide (257 < q_law)) = true by decide +kernel) rfl (show (0 : Nat) ≤ 8 by decide) (show (1 : Nat) ≤ mL 257 by decide +kernel) rfl (sh_ok hG (by decide +kernel)) (m8 p1 p2 p3)
    · refine e_L (L' := [some (aR 188), some (aI v1), none]) (st' := [aR 188]) (show decode (mC 258) 59 = .ok (.aload_n 0, 1) by decide +kernel) rfl (by show (if 188 = 0 then none else some (_, _)) = _; rw [if_neg (by decide)]) ?_
      refine e_getIx (show decode (mC 258) 60 = .ok (.getfield 152, 3) by decide +kernel) (show pl 12 152 = some (0, 12, 11, 0) by decide +kernel) (by decide) (sh_ok hG (by decide +kernel)) ex4 ?_
      refine e_ne1 (t := 101) (show decode (mC 258) 63 = .ok (.ifCond .ne 38, 3) by decide +kernel) (by decide) (s10 p1 p2) (fun p3 => ?_) (fun p3 => ?_)
      · refine e_L (L' := [some (aR 188), some (aI v1), none]) (st' := [aR 188]) (show decode (mC 258) 101 = .ok (.aload_n 0, 1) by decide +kernel) rfl (by show (if 188 = 0 then none else some (_, _)) = _; rw [if_neg (by decide)]) ?_
        refine e_getIx (show decode (mC 258) 102 = .ok (.getfield 397, 3) by decide +kernel) (show pl 12 397 = some (0, 12, 44, 0) by decide +kernel) (by decide) (sh_ok hG (by decide +kernel)) ex5 ?_
        refine e_eq1 (t := 118) (show decode (mC 258) 105 = .ok (.ifCond .eq 13, 3) by decide +kernel) (by decide) (s12 p1 p2 p3) (fun p4 => ?_) (fun p4 => ?_)
        · refine e_L (L' := [some (aR 188), some (aI v1), none]) (st' := [aR 188]) (show decode (mC 258) 118 = .ok (.aload_n 0, 1) by decide +kernel) rfl (by show (if 188 = 0 then none else some (_, _)) = _; rw [if_neg (by decide)]) ?_
          exact e_V (as := [aR 188]) (rest := []) (show decode (mC 258) 119 = .ok (.invokevirtual 409, 3) by decide +kernel) (by decide +kernel) (show (decide ((1 : Nat) = mA 256) && decide (256 < q_law)) = true by decide +kernel) rfl (show (0 : Nat) ≤ 8 by decide) (show (1 : Nat) ≤ mL 256 by decide +kernel) rfl (sh_ok hG (by decide +kernel)) (m13 p1 p2 p3 p4)
        · refine e_L (L' := [some (aR 188), some (aI v1), none]) (st' := [aR 188]) (show decode (mC 258) 108 = .ok (.aload_n 0, 1) by decide +kernel) rfl (by show (if 188 = 0 then none else some (_, _)) = _; rw [if_neg (by decide)]) ?_
          exact e_V (as := [aR 188]) (rest := []) (show decode (mC 258) 109 = .ok (.invokevirtual 406, 3) by decide +kernel) (by decide +kernel) (show (decide ((1 : Nat) = mA 257) && decide (257 < q_law)) = true by decide +kernel) rfl (show (0 : Nat) ≤ 8 by decide) (show (1 : Nat) ≤ mL 257 by decide +kernel) rfl (sh_ok hG (by decide +kernel)) (m14 p1 p2 p3 p4)
      · refine e_L (L' := [some (aR 188), some (aI v1), none]) (st' := [aR 188]) (show decode (mC 258) 66 = .ok (.aload_n 0, 1) by decide +kernel) rfl (by show (if 188 = 0 then none else some (_, _)) = _; rw [if_neg (by decide)]) ?_
        exact e_V (as := [aR 188]) (rest := []) (show decode (mC 258) 67 = .ok (.invokevirtual 400, 3) by decide +kernel) (by decide +kernel) (show (decide ((1 : Nat) = mA 254) && decide (254 < q_law)) = true by decide +kernel) rfl (show (0 : Nat) ≤ 8 by decide) (show (1 : Nat) ≤ mL 254 by decide +kernel) rfl (sh_ok hG (by decide +kernel)) (tm_le hQ (leS (leN (leS leE))) (m15 p1 p2 p3))
/-- SoulOfficeModel.sentence()I, from 70 -/
theorem b258_70 (hG : Shp G)
    (m0 : TM d 253 [aR 188, aI 22] (G, c) (fun r h' => T (d + 1) 258 76 [some (aR 188), none, none] (r.toList ++ []) h' Q)) :
    T (d + 1) 258 70 [some (aR 188), none, none] [] (G, c) Q := by
  refine e_L (L' := [some (aR 188), none, none]) (st' := [aR 188]) (show decode (mC 258) 70 = .ok (.aload_n 0, 1) by decide +kernel) rfl (by show (if 188 = 0 then none else some (_, _)) = _; rw [if_neg (by decide)]) ?_
  refine e_P (st' := [aI 22, aR 188]) (show decode (mC 258) 71 = .ok (.bipush 22, 2) by decide +kernel) rfl rfl rfl ?_
  exact e_V (as := [aR 188, aI 22]) (rest := []) (show decode (mC 258) 73 = .ok (.invokevirtual 403, 3) by decide +kernel) (by decide +kernel) (show (decide ((2 : Nat) = mA 253) && decide (253 < q_law)) = true by decide +kernel) rfl (show (0 : Nat) ≤ 8 by decide) (show (2 : Nat) ≤ mL 253 by decide +kernel) rfl (sh_ok hG (by decide +kernel)) m0
/-- SoulOfficeModel.sentence()I, from 76 -/
theorem b258_76 (hG : Shp G) {x1 : Int}
    (ex1 : c 188 42 = x1)
    (s1 : -2147483648 ≤ x1 ∧ x1 < 2147483648)
    (k2 : (x1 ≤ 0) → T (d + 1) 258 48 [some (aR 188), some (aI 0), none] [] (G, c) Q)
    (m3 : (0 < x1) → TM d 173 [aR 188, aI 1] (G, c) (fun r h' => T (d + 1) 258 88 [some (aR 188), none, none] (r.toList ++ []) h' Q)) :
    T (d + 1) 258 76 [some (aR 188), none, none] [] (G, c) Q := by
  refine e_L (L' := [some (aR 188), none, none]) (st' := [aR 188]) (show decode (mC 258) 76 = .ok (.aload_n 0, 1) by decide +kernel) rfl (by show (if 188 = 0 then none else some (_, _)) = _; rw [if_neg (by decide)]) ?_
  refine e_getIx (show decode (mC 258) 77 = .ok (.getfield 381, 3) by decide +kernel) (show pl 12 381 = some (0, 12, 42, 0) by decide +kernel) (by decide) (sh_ok hG (by decide +kernel)) ex1 ?_
  refine e_le1 (t := 96) (show decode (mC 258) 80 = .ok (.ifCond .le 16, 3) by decide +kernel) (by decide) s1 (fun p1 => ?_) (fun p1 => ?_)
  · refine e_P (st' := [aI 0]) (show decode (mC 258) 96 = .ok (.iconst 0, 1) by decide +kernel) rfl rfl rfl ?_
    refine e_L (L' := [some (aR 188), some (aI 0), none]) (st' := []) (show decode (mC 258) 97 = .ok (.istore_n 1, 1) by decide +kernel) rfl rfl ?_
    refine e_go (t := 48) (show decode (mC 258) 98 = .ok (.goto (-50), 3) by decide +kernel) (by decide) ?_
    exact (k2 p1)
  · refine e_L (L' := [some (aR 188), none, none]) (st' := [aR 188]) (show decode (mC 258) 83 = .ok (.aload_n 0, 1) by decide +kernel) rfl (by show (if 188 = 0 then none else some (_, _)) = _; rw [if_neg (by decide)]) ?_
    refine e_P (st' := [aI 1, aR 188]) (show decode (mC 258) 84 = .ok (.iconst 1, 1) by decide +kernel) rfl rfl rfl ?_
    exact e_V (as := [aR 188, aI 1]) (rest := []) (show decode (mC 258) 85 = .ok (.invokevirtual 178, 3) by decide +kernel) (by decide +kernel) (show (decide ((2 : Nat) = mA 173) && decide (173 < q_law)) = true by decide +kernel) rfl (show (0 : Nat) ≤ 8 by decide) (show (2 : Nat) ≤ mL 173 by decide +kernel) rfl (sh_ok hG (by decide +kernel)) (m3 p1)
/-- SoulOfficeModel.sentence()I, from 88 -/
theorem b258_88 (hG : Shp G) {u0 x1 : Int}
    (ex1 : c 188 16 = x1)
    (z1 : Q (.inl (some (aI ((-1) - x1)))) (G, c)) :
    T (d + 1) 258 88 [some (aR 188), none, none] [aI u0] (G, c) Q := by
  refine e_P (st' := []) (show decode (mC 258) 88 = .ok (.pop, 1) by decide +kernel) rfl rfl rfl ?_
  refine e_P (st' := [aI (-1)]) (show decode (mC 258) 89 = .ok (.iconst (-1), 1) by decide +kernel) rfl rfl rfl ?_
  refine e_L (L' := [some (aR 188), none, none]) (st' := [aR 188, aI (-1)]) (show decode (mC 258) 90 = .ok (.aload_n 0, 1) by decide +kernel) rfl (by show (if 188 = 0 then none else some (_, _)) = _; rw [if_neg (by decide)]) ?_
  refine e_getIx (show decode (mC 258) 91 = .ok (.getfield 172, 3) by decide +kernel) (show pl 12 172 = some (0, 12, 16, 0) by decide +kernel) (by decide) (sh_ok hG (by decide +kernel)) ex1 ?_
  refine e_P (st' := [aI ((-1) - x1)]) (show decode (mC 258) 94 = .ok (.isub, 1) by decide +kernel) rfl rfl rfl ?_
  exact e_iret (show decode (mC 258) 95 = .ok (.ireturn, 1) by decide +kernel) rfl z1
/-- SoulOfficeModel.sentence()I, from 112 -/
theorem b258_112 (hG : Shp G) {v1 u0 x1 : Int}
    (s0 : -2147483648 ≤ u0 ∧ u0 < 2147483648)
    (k1 : (¬ u0 = 0) → T (d + 1) 258 48 [some (aR 188), some (aI v1), none] [] (G, c) Q)
    (ex1 : c 188 16 = x1)
    (z3 : (u0 = 0) → Q (.inl (some (aI ((-1) - x1)))) (G, c)) :
    T (d + 1) 258 112 [some (aR 188), some (aI v1), none] [aI u0] (G, c) Q := by
  refine e_ne1 (t := 48) (show decode (mC 258) 112 = .ok (.ifCond .ne (-64), 3) by decide +kernel) (by decide) s0 (fun p1 => ?_) (fun p1 => ?_)
  · exact (k1 p1)
  · refine e_go (t := 125) (show decode (mC 258) 115 = .ok (.goto 10, 3) by decide +kernel) (by decide) ?_
    refine e_P (st' := [aI (-1)]) (show decode (mC 258) 125 = .ok (.iconst (-1), 1) by decide +kernel) rfl rfl rfl ?_
    refine e_L (L' := [some (aR 188), some (aI v1), none]) (st' := [aR 188, aI (-1)]) (show decode (mC 258) 126 = .ok (.aload_n 0, 1) by decide +kernel) rfl (by show (if 188 = 0 then none else some (_, _)) = _; rw [if_neg (by decide)]) ?_
    refine e_getIx (show decode (mC 258) 127 = .ok (.getfield 172, 3) by decide +kernel) (show pl 12 172 = some (0, 12, 16, 0) by decide +kernel) (by decide) (sh_ok hG (by decide +kernel)) ex1 ?_
    refine e_P (st' := [aI ((-1) - x1)]) (show decode (mC 258) 130 = .ok (.isub, 1) by decide +kernel) rfl rfl rfl ?_
    exact e_iret (show decode (mC 258) 131 = .ok (.ireturn, 1) by decide +kernel) rfl (z3 p1)
/-- SoulOfficeModel.sentence()I, from 122 -/
theorem b258_122 (hG : Shp G) {v1 u0 x1 : Int}
    (s0 : -2147483648 ≤ u0 ∧ u0 < 2147483648)
    (k1 : (¬ u0 = 0) → T (d + 1) 258 48 [some (aR 188), some (aI v1), none] [] (G, c) Q)
    (ex1 : c 188 16 = x1)
    (z3 : (u0 = 0) → Q (.inl (some (aI ((-1) - x1)))) (G, c)) :
    T (d + 1) 258 122 [some (aR 188), some (aI v1), none] [aI u0] (G, c) Q := by
  refine e_ne1 (t := 48) (show decode (mC 258) 122 = .ok (.ifCond .ne (-74), 3) by decide +kernel) (by decide) s0 (fun p1 => ?_) (fun p1 => ?_)
  · exact (k1 p1)
  · refine e_P (st' := [aI (-1)]) (show decode (mC 258) 125 = .ok (.iconst (-1), 1) by decide +kernel) rfl rfl rfl ?_
    refine e_L (L' := [some (aR 188), some (aI v1), none]) (st' := [aR 188, aI (-1)]) (show decode (mC 258) 126 = .ok (.aload_n 0, 1) by decide +kernel) rfl (by show (if 188 = 0 then none else some (_, _)) = _; rw [if_neg (by decide)]) ?_
    refine e_getIx (show decode (mC 258) 127 = .ok (.getfield 172, 3) by decide +kernel) (show pl 12 172 = some (0, 12, 16, 0) by decide +kernel) (by decide) (sh_ok hG (by decide +kernel)) ex1 ?_
    refine e_P (st' := [aI ((-1) - x1)]) (show decode (mC 258) 130 = .ok (.isub, 1) by decide +kernel) rfl rfl rfl ?_
    exact e_iret (show decode (mC 258) 131 = .ok (.ireturn, 1) by decide +kernel) rfl (z3 p1)
end QB33
