section QB16
variable {d : Nat} {G : GG} {c : CC} {Q : OO → HH → Prop}
/-- SoulOffice$Nets.mostGroups()I, from 0 -/
theorem b56_0 (hG : Shp G)
    (m0 : TM d 57 [aR 136] (G, c) (fun r h' => T (d + 1) 56 4 [some (aR 136), none, none, none, none] (r.toList ++ []) h' Q)) :
    T (d + 1) 56 0 [some (aR 136), none, none, none, none] [] (G, c) Q := by
  refine e_L (L' := [some (aR 136), none, none, none, none]) (st' := [aR 136]) (show decode (mC 56) 0 = .ok (.aload_n 0, 1) by decide +kernel) rfl (by show (if 136 = 0 then none else some (_, _)) = _; rw [if_neg (by decide)]) ?_
  exact e_V (as := [aR 136]) (rest := []) (show decode (mC 56) 1 = .ok (.invokevirtual 29, 3) by decide +kernel) (by decide +kernel) (show (decide ((1 : Nat) = mA 57) && decide (57 < q_law)) = true by decide +kernel) rfl (show (0 : Nat) ≤ 8 by decide) (show (1 : Nat) ≤ mL 57 by decide +kernel) rfl (sh_ok hG (by decide +kernel)) m0
/-- SoulOffice$Nets.mostGroups()I, from 4 -/
theorem b56_4 (hG : Shp G)
    (k0 : T (d + 1) 56 6 [some (aR 136), some (aI 1), none, none, none] [] (G, c) Q) :
    T (d + 1) 56 4 [some (aR 136), none, none, none, none] [] (G, c) Q := by
  refine e_P (st' := [aI 1]) (show decode (mC 56) 4 = .ok (.iconst 1, 1) by decide +kernel) rfl rfl rfl ?_
  refine e_L (L' := [some (aR 136), some (aI 1), none, none, none]) (st' := []) (show decode (mC 56) 5 = .ok (.istore_n 1, 1) by decide +kernel) rfl rfl ?_
  exact k0
/-- SoulOffice$Nets.mostGroups()I, from 6 -/
theorem b56_6 (hG : Shp G) {v1 x1 x2 x3 x4 x5 : Int}
    (ex1 : c 136 5 = x1)
    (s1 : -2147483648 ≤ v1 ∧ v1 < 2147483648)
    (s2 : -2147483648 ≤ (q_shl 1 x1) ∧ (q_shl 1 x1) < 2147483648)
    (ex2 : c 136 5 = x2)
    (s4 : ((q_shl 1 x1) ≤ v1) → 0 ≤ ((q_shl 1 x2) - 1))
    (s5 : ((q_shl 1 x1) ≤ v1) → ((q_shl 1 x2) - 1) < 256)
    (ex3 : c 139 ((q_shl 1 x2) - 1) = x3)
    (z7 : ((q_shl 1 x1) ≤ v1) → Q (.inl (some (aI x3))) (G, c))
    (ex4 : c 136 5 = x4)
    (s9 : (v1 < (q_shl 1 x1)) → (256 ≤ v1) → 0 ≤ ((q_shl 1 x4) - 1))
    (s10 : (v1 < (q_shl 1 x1)) → (256 ≤ v1) → ((q_shl 1 x4) - 1) < 256)
    (ex5 : c 139 ((q_shl 1 x4) - 1) = x5)
    (z12 : (v1 < (q_shl 1 x1)) → (256 ≤ v1) → Q (.inl (some (aI x5))) (G, c))
    (k13 : (v1 < (q_shl 1 x1)) → (v1 < 256) → T (d + 1) 56 27 [some (aR 136), some (aI v1), some (aI 0), some (aI 0), none] [] (G, c) Q) :
    T (d + 1) 56 6 [some (aR 136), some (aI v1), none, none, none] [] (G, c) Q := by
  refine e_L (L' := [some (aR 136), some (aI v1), none, none, none]) (st' := [aI v1]) (show decode (mC 56) 6 = .ok (.iload_n 1, 1) by decide +kernel) rfl rfl ?_
  refine e_P (st' := [aI 1, aI v1]) (show decode (mC 56) 7 = .ok (.iconst 1, 1) by decide +kernel) rfl rfl rfl ?_
  refine e_L (L' := [some (aR 136), some (aI v1), none, none, none]) (st' := [aR 136, aI 1, aI v1]) (show decode (mC 56) 8 = .ok (.aload_n 0, 1) by decide +kernel) rfl (by show (if 136 = 0 then none else some (_, _)) = _; rw [if_neg (by decide)]) ?_
  refine e_getIx (show decode (mC 56) 9 = .ok (.getfield 32, 3) by decide +kernel) (show pl 6 32 = some (0, 6, 5, 0) by decide +kernel) (by decide) (sh_ok hG (by decide +kernel)) ex1 ?_
  refine e_P (st' := [aI (q_shl 1 x1), aI v1]) (show decode (mC 56) 12 = .ok (.ishl, 1) by decide +kernel) rfl rfl rfl ?_
  refine e_ge2 (t := 117) (show decode (mC 56) 13 = .ok (.if_icmp .ge 104, 3) by decide +kernel) (by decide) s1 s2 (fun p1 => ?_) (fun p1 => ?_)
  · refine e_L (L' := [some (aR 136), some (aI v1), none, none, none]) (st' := [aR 136]) (show decode (mC 56) 117 = .ok (.aload_n 0, 1) by decide +kernel) rfl (by show (if 136 = 0 then none else some (_, _)) = _; rw [if_neg (by decide)]) ?_
    refine e_getR (w := 139) (show decode (mC 56) 118 = .ok (.getfield 18, 3) by decide +kernel) (show pl 6 18 = some (0, 6, 4, 0) by decide +kernel) (by decide) (sh_ok hG (by decide +kernel)) (sh_rf hG (by decide +kernel)) ?_
    refine e_P (st' := [aI 1, aR 139]) (show decode (mC 56) 121 = .ok (.iconst 1, 1) by decide +kernel) rfl rfl rfl ?_
    refine e_L (L' := [some (aR 136), some (aI v1), none, none, none]) (st' := [aR 136, aI 1, aR 139]) (show decode (mC 56) 122 = .ok (.aload_n 0, 1) by decide +kernel) rfl (by show (if 136 = 0 then none else some (_, _)) = _; rw [if_neg (by decide)]) ?_
    refine e_getIx (show decode (mC 56) 123 = .ok (.getfield 32, 3) by decide +kernel) (show pl 6 32 = some (0, 6, 5, 0) by decide +kernel) (by decide) (sh_ok hG (by decide +kernel)) ex2 ?_
    refine e_P (st' := [aI (q_shl 1 x2), aR 139]) (show decode (mC 56) 126 = .ok (.ishl, 1) by decide +kernel) rfl rfl rfl ?_
    refine e_P (st' := [aI 1, aI (q_shl 1 x2), aR 139]) (show decode (mC 56) 127 = .ok (.iconst 1, 1) by decide +kernel) rfl rfl rfl ?_
    refine e_P (st' := [aI ((q_shl 1 x2) - 1), aR 139]) (show decode (mC 56) 128 = .ok (.isub, 1) by decide +kernel) rfl rfl rfl ?_
    refine e_ialdx (n := 256) (show decode (mC 56) 129 = .ok (.iaload, 1) by decide +kernel) (sh_ok hG (by decide +kernel)) (sh_ln hG (by decide +kernel)) (by decide) (s4 p1) (s5 p1) ex3 ?_
    exact e_iret (show decode (mC 56) 130 = .ok (.ireturn, 1) by decide +kernel) rfl (z7 p1)
  · refine e_L (L' := [some (aR 136), some (aI v1), none, none, none]) (st' := [aI v1]) (show decode (mC 56) 16 = .ok (.iload_n 1, 1) by decide +kernel) rfl rfl ?_
    refine e_P (st' := [aI 256, aI v1]) (show decode (mC 56) 17 = .ok (.sipush 256, 3) by decide +kernel) rfl rfl rfl ?_
    refine e_ge2 (t := 117) (show decode (mC 56) 20 = .ok (.if_icmp .ge 97, 3) by decide +kernel) (by decide) s1 (by decide) (fun p2 => ?_) (fun p2 => ?_)
    · refine e_L (L' := [some (aR 136), some (aI v1), none, none, none]) (st' := [aR 136]) (show decode (mC 56) 117 = .ok (.aload_n 0, 1) by decide +kernel) rfl (by show (if 136 = 0 then none else some (_, _)) = _; rw [if_neg (by decide)]) ?_
      refine e_getR (w := 139) (show decode (mC 56) 118 = .ok (.getfield 18, 3) by decide +kernel) (show pl 6 18 = some (0, 6, 4, 0) by decide +kernel) (by decide) (sh_ok hG (by decide +kernel)) (sh_rf hG (by decide +kernel)) ?_
      refine e_P (st' := [aI 1, aR 139]) (show decode (mC 56) 121 = .ok (.iconst 1, 1) by decide +kernel) rfl rfl rfl ?_
      refine e_L (L' := [some (aR 136), some (aI v1), none, none, none]) (st' := [aR 136, aI 1, aR 139]) (show decode (mC 56) 122 = .ok (.aload_n 0, 1) by decide +kernel) rfl (by show (if 136 = 0 then none else some (_, _)) = _; rw [if_neg (by decide)]) ?_
      refine e_getIx (show decode (mC 56) 123 = .ok (.getfield 32, 3) by decide +kernel) (show pl 6 32 = some (0, 6, 5, 0) by decide +kernel) (by decide) (sh_ok hG (by decide +kernel)) ex4 ?_
      refine e_P (st' := [aI (q_shl 1 x4), aR 139]) (show decode (mC 56) 126 = .ok (.ishl, 1) by decide +kernel) rfl rfl rfl ?_
      refine e_P (st' := [aI 1, aI (q_shl 1 x4), aR 139]) (show decode (mC 56) 127 = .ok (.iconst 1, 1) by decide +kernel) rfl rfl rfl ?_
      refine e_P (st' := [aI ((q_shl 1 x4) - 1), aR 139]) (show decode (mC 56) 128 = .ok (.isub, 1) by decide +kernel) rfl rfl rfl ?_
      refine e_ialdx (n := 256) (show decode (mC 56) 129 = .ok (.iaload, 1) by decide +kernel) (sh_ok hG (by decide +kernel)) (sh_ln hG (by decide +kernel)) (by decide) (s9 p1 p2) (s10 p1 p2) ex5 ?_
      exact e_iret (show decode (mC 56) 130 = .ok (.ireturn, 1) by decide +kernel) rfl (z12 p1 p2)
    · refine e_P (st' := [aI 0]) (show decode (mC 56) 23 = .ok (.iconst 0, 1) by decide +kernel) rfl rfl rfl ?_
      refine e_L (L' := [some (aR 136), some (aI v1), some (aI 0), none, none]) (st' := []) (show decode (mC 56) 24 = .ok (.istore_n 2, 1) by decide +kernel) rfl rfl ?_
      refine e_P (st' := [aI 0]) (show decode (mC 56) 25 = .ok (.iconst 0, 1) by decide +kernel) rfl rfl rfl ?_
      refine e_L (L' := [some (aR 136), some (aI v1), some (aI 0), some (aI 0), none]) (st' := []) (show decode (mC 56) 26 = .ok (.istore_n 3, 1) by decide +kernel) rfl rfl ?_
      exact (k13 p1 p2)
/-- SoulOffice$Nets.mostGroups()I, from 27 -/
theorem b56_27 (hG : Shp G) {v1 v2 v3 x1 x2 x3 x4 x5 : Int} (hQ : ∀ o o' h', q_eqo o o' → Q o h' → Q o' h')
    (ex1 : c 136 5 = x1)
    (s1 : -2147483648 ≤ v3 ∧ v3 < 2147483648)
    (s2 : -2147483648 ≤ x1 ∧ x1 < 2147483648)
    (s3 : (x1 ≤ v3) → 0 ≤ v1)
    (s4 : (x1 ≤ v3) → v1 < 256)
    (ex2 : c 138 v1 = x2)
    (s6 : (x1 ≤ v3) → -2147483648 ≤ x2 ∧ x2 < 2147483648)
    (k7 : (x1 ≤ v3) → (¬ x2 = 0) → T (d + 1) 56 6 [some (aR 136), some (aI (v1 + 1)), none, none, none] [] (G, (q_up c 139 v1 v2)) Q)
    (k8 : (x1 ≤ v3) → (x2 = 0) → T (d + 1) 56 6 [some (aR 136), some (aI (v1 + 1)), none, none, none] [] (G, (q_up c 139 v1 (v2 + 1))) Q)
    (s9 : (v3 < x1) → -2147483648 ≤ (q_and (q_shr v1 v3) 1) ∧ (q_and (q_shr v1 v3) 1) < 2147483648)
    (k10 : (v3 < x1) → (¬ (q_and (q_shr v1 v3) 1) = 1) → T (d + 1) 56 27 [some (aR 136), some (aI v1), some (aI v2), some (aI (v3 + 1)), none] [] (G, c) Q)
    (s11 : (v3 < x1) → ((q_and (q_shr v1 v3) 1) = 1) → 0 ≤ (q_xor v1 (q_shl 1 v3)))
    (s12 : (v3 < x1) → ((q_and (q_shr v1 v3) 1) = 1) → (q_xor v1 (q_shl 1 v3)) < 256)
    (ex3 : c 138 (q_xor v1 (q_shl 1 v3)) = x3)
    (s14 : (v3 < x1) → ((q_and (q_shr v1 v3) 1) = 1) → 0 ≤ v3)
    (s15 : (v3 < x1) → ((q_and (q_shr v1 v3) 1) = 1) → v3 < 8)
    (ex4 : c 137 v3 = x4)
    (s17 : (v3 < x1) → ((q_and (q_shr v1 v3) 1) = 1) → 0 ≤ v1)
    (s18 : (v3 < x1) → ((q_and (q_shr v1 v3) 1) = 1) → v1 < 256)
    (ex5 : (q_up c 138 v1 (x3 + x4)) 139 (q_xor v1 (q_shl 1 v3)) = x5)
    (s20 : (v3 < x1) → ((q_and (q_shr v1 v3) 1) = 1) → -2147483648 ≤ v2 ∧ v2 < 2147483648)
    (s21 : (v3 < x1) → ((q_and (q_shr v1 v3) 1) = 1) → -2147483648 ≤ x5 ∧ x5 < 2147483648)
    (k22 : (v3 < x1) → ((q_and (q_shr v1 v3) 1) = 1) → T (d + 1) 56 27 [some (aR 136), some (aI v1), some (aI (if v2 < x5 then x5 else v2)), some (aI (v3 + 1)), none] [] (G, (q_up c 138 v1 (x3 + x4))) Q) :
    T (d + 1) 56 27 [some (aR 136), some (aI v1), some (aI v2), some (aI v3), none] [] (G, c) Q := by
  refine e_L (L' := [some (aR 136), some (aI v1), some (aI v2), some (aI v3), none]) (st' := [aI v3]) (show decode (mC 56) 27 = .ok (.iload_n 3, 1) by decide +kernel) rfl rfl ?_
  refine e_L (L' := [some (aR 136), some (aI v1), some (aI v2), some (aI v3), none]) (st' := [aR 136, aI v3]) (show decode (mC 56) 28 = .ok (.aload_n 0, 1) by decide +kernel) rfl (by show (if 136 = 0 then none else some (_, _)) = _; rw [if_neg (by decide)]) ?_
  refine e_getIx (show decode (mC 56) 29 = .ok (.getfield 32, 3) by decide +kernel) (show pl 6 32 = some (0, 6, 5, 0) by decide +kernel) (by decide) (sh_ok hG (by decide +kernel)) ex1 ?_
  refine e_ge2 (t := 89) (show decode (mC 56) 32 = .ok (.if_icmp .ge 57, 3) by decide +kernel) (by decide) s1 s2 (fun p1 => ?_) (fun p1 => ?_)
  · refine e_L (L' := [some (aR 136), some (aI v1), some (aI v2), some (aI v3), none]) (st' := [aR 136]) (show decode (mC 56) 89 = .ok (.aload_n 0, 1) by decide +kernel) rfl (by show (if 136 = 0 then none else some (_, _)) = _; rw [if_neg (by decide)]) ?_
    refine e_getR (w := 139) (show decode (mC 56) 90 = .ok (.getfield 18, 3) by decide +kernel) (show pl 6 18 = some (0, 6, 4, 0) by decide +kernel) (by decide) (sh_ok hG (by decide +kernel)) (sh_rf hG (by decide +kernel)) ?_
    refine e_L (L' := [some (aR 136), some (aI v1), some (aI v2), some (aI v3), none]) (st' := [aI v1, aR 139]) (show decode (mC 56) 93 = .ok (.iload_n 1, 1) by decide +kernel) rfl rfl ?_
    refine e_L (L' := [some (aR 136), some (aI v1), some (aI v2), some (aI v3), none]) (st' := [aR 136, aI v1, aR 139]) (show decode (mC 56) 94 = .ok (.aload_n 0, 1) by decide +kernel) rfl (by show (if 136 = 0 then none else some (_, _)) = _; rw [if_neg (by decide)]) ?_
    refine e_getR (w := 138) (show decode (mC 56) 95 = .ok (.getfield 15, 3) by decide +kernel) (show pl 6 15 = some (0, 6, 3, 0) by decide +kernel) (by decide) (sh_ok hG (by decide +kernel)) (sh_rf hG (by decide +kernel)) ?_
    refine e_L (L' := [some (aR 136), some (aI v1), some (aI v2), some (aI v3), none]) (st' := [aI v1, aR 138, aI v1, aR 139]) (show decode (mC 56) 98 = .ok (.iload_n 1, 1) by decide +kernel) rfl rfl ?_
    refine e_ialdx (n := 256) (show decode (mC 56) 99 = .ok (.iaload, 1) by decide +kernel) (sh_ok hG (by decide +kernel)) (sh_ln hG (by decide +kernel)) (by decide) (s3 p1) (s4 p1) ex2 ?_
    refine e_ne1 (t := 109) (show decode (mC 56) 100 = .ok (.ifCond .ne 9, 3) by decide +kernel) (by decide) (s6 p1) (fun p2 => ?_) (fun p2 => ?_)
    · refine e_L (L' := [some (aR 136), some (aI v1), some (aI v2), some (aI v3), none]) (st' := [aI v2, aI v1, aR 139]) (show decode (mC 56) 109 = .ok (.iload_n 2, 1) by decide +kernel) rfl rfl ?_
      refine e_iast (n := 256) (show decode (mC 56) 110 = .ok (.iastore, 1) by decide +kernel) (sh_ok hG (by decide +kernel)) (sh_ln hG (by decide +kernel)) (by decide) (s3 p1) (s4 p1) ?_
      refine e_L (L' := [some (aR 136), some (aI (v1 + 1)), some (aI v2), some (aI v3), none]) (st' := []) (show decode (mC 56) 111 = .ok (.iinc 1 1, 3) by decide +kernel) rfl rfl ?_
      refine e_go (t := 6) (show decode (mC 56) 114 = .ok (.goto (-108), 3) by decide +kernel) (by decide) ?_
      exact T_le hQ (leS (leS (leN (leN (leS leE))))) (k7 p1 p2)
    · refine e_L (L' := [some (aR 136), some (aI v1), some (aI v2), some (aI v3), none]) (st' := [aI v2, aI v1, aR 139]) (show decode (mC 56) 103 = .ok (.iload_n 2, 1) by decide +kernel) rfl rfl ?_
      refine e_P (st' := [aI 1, aI v2, aI v1, aR 139]) (show decode (mC 56) 104 = .ok (.iconst 1, 1) by decide +kernel) rfl rfl rfl ?_
      refine e_P (st' := [aI (v2 + 1), aI v1, aR 139]) (show decode (mC 56) 105 = .ok (.iadd, 1) by decide +kernel) rfl rfl rfl ?_
      refine e_go (t := 110) (show decode (mC 56) 106 = .ok (.goto 4, 3) by decide +kernel) (by decide) ?_
      refine e_iast (n := 256) (show decode (mC 56) 110 = .ok (.iastore, 1) by decide +kernel) (sh_ok hG (by decide +kernel)) (sh_ln hG (by decide +kernel)) (by decide) (s3 p1) (s4 p1) ?_
      refine e_L (L' := [some (aR 136), some (aI (v1 + 1)), some (aI v2), some (aI v3), none]) (st' := []) (show decode (mC 56) 111 = .ok (.iinc 1 1, 3) by decide +kernel) rfl rfl ?_
      refine e_go (t := 6) (show decode (mC 56) 114 = .ok (.goto (-108), 3) by decide +kernel) (by decide) ?_
      exact T_le hQ (leS (leS (leN (leN (leS leE))))) (k8 p1 p2)
  · refine e_L (L' := [some (aR 136), some (aI v1), some (aI v2), some (aI v3), none]) (st' := [aI v1]) (show decode (mC 56) 35 = .ok (.iload_n 1, 1) by decide +kernel) rfl rfl ?_
    refine e_L (L' := [some (aR 136), some (aI v1), some (aI v2), some (aI v3), none]) (st' := [aI v3, aI v1]) (show decode (mC 56) 36 = .ok (.iload_n 3, 1) by decide +kernel) rfl rfl ?_
    refine e_P (st' := [aI (q_shr v1 v3)]) (show decode (mC 56) 37 = .ok (.ishr, 1) by decide +kernel) rfl rfl rfl ?_
    refine e_P (st' := [aI 1, aI (q_shr v1 v3)]) (show decode (mC 56) 38 = .ok (.iconst 1, 1) by decide +kernel) rfl rfl rfl ?_
    refine e_P (st' := [aI (q_and (q_shr v1 v3) 1)]) (show decode (mC 56) 39 = .ok (.iand, 1) by decide +kernel) rfl rfl rfl ?_
    refine e_P (st' := [aI 1, aI (q_and (q_shr v1 v3) 1)]) (show decode (mC 56) 40 = .ok (.iconst 1, 1) by decide +kernel) rfl rfl rfl ?_
    refine e_ne2 (t := 83) (show decode (mC 56) 41 = .ok (.if_icmp .ne 42, 3) by decide +kernel) (by decide) (s9 p1) (by decide) (fun p2 => ?_) (fun p2 => ?_)
    · refine e_L (L' := [some (aR 136), some (aI v1), some (aI v2), some (aI (v3 + 1)), none]) (st' := []) (show decode (mC 56) 83 = .ok (.iinc 3 1, 3) by decide +kernel) rfl rfl ?_
      refine e_go (t := 27) (show decode (mC 56) 86 = .ok (.goto (-59), 3) by decide +kernel) (by decide) ?_
      exact (k10 p1 p2)
    · refine e_L (L' := [some (aR 136), some (aI v1), some (aI v2), some (aI v3), none]) (st' := [aI v1]) (show decode (mC 56) 44 = .ok (.iload_n 1, 1) by decide +kernel) rfl rfl ?_
      refine e_P (st' := [aI 1, aI v1]) (show decode (mC 56) 45 = .ok (.iconst 1, 1) by decide +kernel) rfl rfl rfl ?_
      refine e_L (L' := [some (aR 136), some (aI v1), some (aI v2), some (aI v3), none]) (st' := [aI v3, aI 1, aI v1]) (show decode (mC 56) 46 = .ok (.iload_n 3, 1) by decide +kernel) rfl rfl ?_
      refine e_P (st' := [aI (q_shl 1 v3), aI v1]) (show decode (mC 56) 47 = .ok (.ishl, 1) by decide +kernel) rfl rfl rfl ?_
      refine e_P (st' := [aI (q_xor v1 (q_shl 1 v3))]) (show decode (mC 56) 48 = .ok (.ixor, 1) by decide +kernel) rfl rfl rfl ?_
      refine e_L (L' := [some (aR 136), some (aI v1), some (aI v2), some (aI v3), some (aI (q_xor v1 (q_shl 1 v3)))]) (st' := []) (show decode (mC 56) 49 = .ok (.istore 4, 2) by decide +kernel) rfl rfl ?_
      refine e_L (L' := [some (aR 136), some (aI v1), some (aI v2), some (aI v3), some (aI (q_xor v1 (q_shl 1 v3)))]) (st' := [aR 136]) (show decode (mC 56) 51 = .ok (.aload_n 0, 1) by decide +kernel) rfl (by show (if 136 = 0 then none else some (_, _)) = _; rw [if_neg (by decide)]) ?_
      refine e_getR (w := 138) (show decode (mC 56) 52 = .ok (.getfield 15, 3) by decide +kernel) (show pl 6 15 = some (0, 6, 3, 0) by decide +kernel) (by decide) (sh_ok hG (by decide +kernel)) (sh_rf hG (by decide +kernel)) ?_
      refine e_L (L' := [some (aR 136), some (aI v1), some (aI v2), some (aI v3), some (aI (q_xor v1 (q_shl 1 v3)))]) (st' := [aI v1, aR 138]) (show decode (mC 56) 55 = .ok (.iload_n 1, 1) by decide +kernel) rfl rfl ?_
      refine e_L (L' := [some (aR 136), some (aI v1), some (aI v2), some (aI v3), some (aI (q_xor v1 (q_shl 1 v3)))]) (st' := [aR 136, aI v1, aR 138]) (show decode (mC 56) 56 = .ok (.aload_n 0, 1) by decide +kernel) rfl (by show (if 136 = 0 then none else some (_, _)) = _; rw [if_neg (by decide)]) ?_
      refine e_getR (w := 138) (show decode (mC 56) 57 = .ok (.getfield 15, 3) by decide +kernel) (show pl 6 15 = some (0, 6, 3, 0) by decide +kernel) (by decide) (sh_ok hG (by decide +kernel)) (sh_rf hG (by decide +kernel)) ?_
      refine e_L (L' := [some (aR 136), some (aI v1), some (aI v2), some (aI v3), some (aI (q_xor v1 (q_shl 1 v3)))]) (st' := [aI (q_xor v1 (q_shl 1 v3)), aR 138, aI v1, aR 138]) (show decode (mC 56) 60 = .ok (.iload 4, 2) by decide +kernel) rfl rfl ?_
      refine e_ialdx (n := 256) (show decode (mC 56) 62 = .ok (.iaload, 1) by decide +kernel) (sh_ok hG (by decide +kernel)) (sh_ln hG (by decide +kernel)) (by decide) (s11 p1 p2) (s12 p1 p2) ex3 ?_
      refine e_L (L' := [some (aR 136), some (aI v1), some (aI v2), some (aI v3), some (aI (q_xor v1 (q_shl 1 v3)))]) (st' := [aR 136, aI x3, aI v1, aR 138]) (show decode (mC 56) 63 = .ok (.aload_n 0, 1) by decide +kernel) rfl (by show (if 136 = 0 then none else some (_, _)) = _; rw [if_neg (by decide)]) ?_
      refine e_getR (w := 137) (show decode (mC 56) 64 = .ok (.getfield 9, 3) by decide +kernel) (show pl 6 9 = some (0, 6, 2, 0) by decide +kernel) (by decide) (sh_ok hG (by decide +kernel)) (sh_rf hG (by decide +kernel)) ?_
      refine e_L (L' := [some (aR 136), some (aI v1), some (aI v2), some (aI v3), some (aI (q_xor v1 (q_shl 1 v3)))]) (st' := [aI v3, aR 137, aI x3, aI v1, aR 138]) (show decode (mC 56) 67 = .ok (.iload_n 3, 1) by decide +kernel) rfl rfl ?_
      refine e_ialdx (n := 8) (show decode (mC 56) 68 = .ok (.iaload, 1) by decide +kernel) (sh_ok hG (by decide +kernel)) (sh_ln hG (by decide +kernel)) (by decide) (s14 p1 p2) (s15 p1 p2) ex4 ?_
      refine e_P (st' := [aI (x3 + x4), aI v1, aR 138]) (show decode (mC 56) 69 = .ok (.iadd, 1) by decide +kernel) rfl rfl rfl ?_
      refine e_iast (n := 256) (show decode (mC 56) 70 = .ok (.iastore, 1) by decide +kernel) (sh_ok hG (by decide +kernel)) (sh_ln hG (by decide +kernel)) (by decide) (s17 p1 p2) (s18 p1 p2) ?_
      refine e_L (L' := [some (aR 136), some (aI v1), some (aI v2), some (aI v3), some (aI (q_xor v1 (q_shl 1 v3)))]) (st' := [aI v2]) (show decode (mC 56) 71 = .ok (.iload_n 2, 1) by decide +kernel) rfl rfl ?_
      refine e_L (L' := [some (aR 136), some (aI v1), some (aI v2), some (aI v3), some (aI (q_xor v1 (q_shl 1 v3)))]) (st' := [aR 136, aI v2]) (show decode (mC 56) 72 = .ok (.aload_n 0, 1) by decide +kernel) rfl (by show (if 136 = 0 then none else some (_, _)) = _; rw [if_neg (by decide)]) ?_
      refine e_getR (w := 139) (show decode (mC 56) 73 = .ok (.getfield 18, 3) by decide +kernel) (show pl 6 18 = some (0, 6, 4, 0) by decide +kernel) (by decide) (sh_ok hG (by decide +kernel)) (sh_rf hG (by decide +kernel)) ?_
      refine e_L (L' := [some (aR 136), some (aI v1), some (aI v2), some (aI v3), some (aI (q_xor v1 (q_shl 1 v3)))]) (st' := [aI (q_xor v1 (q_shl 1 v3)), aR 139, aI v2]) (show decode (mC 56) 76 = .ok (.iload 4, 2) by decide +kernel) rfl rfl ?_
      refine e_ialdx (n := 256) (show decode (mC 56) 78 = .ok (.iaload, 1) by decide +kernel) (sh_ok hG (by decide +kernel)) (sh_ln hG (by decide +kernel)) (by decide) (s11 p1 p2) (s12 p1 p2) ex5 ?_
      refine e_max (show decode (mC 56) 79 = .ok (.invokestatic 36, 3) by decide +kernel) (show pl 6 36 = some (15, 0, 0, 0) by decide +kernel) (s20 p1 p2) (s21 p1 p2) (show (0 : Nat) ≤ 20 by decide) ?_
      refine e_L (L' := [some (aR 136), some (aI v1), some (aI (if v2 < x5 then x5 else v2)), some (aI v3), some (aI (q_xor v1 (q_shl 1 v3)))]) (st' := []) (show decode (mC 56) 82 = .ok (.istore_n 2, 1) by decide +kernel) rfl rfl ?_
      refine e_L (L' := [some (aR 136), some (aI v1), some (aI (if v2 < x5 then x5 else v2)), some (aI (v3 + 1)), some (aI (q_xor v1 (q_shl 1 v3)))]) (st' := []) (show decode (mC 56) 83 = .ok (.iinc 3 1, 3) by decide +kernel) rfl rfl ?_
      refine e_go (t := 27) (show decode (mC 56) 86 = .ok (.goto (-59), 3) by decide +kernel) (by decide) ?_
      exact T_le hQ (leS (leS (leS (leS (leN leE))))) (k22 p1 p2)
/-- SoulOffice$Nets.collect()V, from 0 -/
theorem b57_0 (hG : Shp G)
    (k0 : T (d + 1) 57 7 [some (aR 136), some (aI 0), none] [] (G, (q_up c 136 5 0)) Q) :
    T (d + 1) 57 0 [some (aR 136), none, none] [] (G, c) Q := by
  refine e_L (L' := [some (aR 136), none, none]) (st' := [aR 136]) (show decode (mC 57) 0 = .ok (.aload_n 0, 1) by decide +kernel) rfl (by show (if 136 = 0 then none else some (_, _)) = _; rw [if_neg (by decide)]) ?_
  refine e_P (st' := [aI 0, aR 136]) (show decode (mC 57) 1 = .ok (.iconst 0, 1) by decide +kernel) rfl rfl rfl ?_
  refine e_putI (show decode (mC 57) 2 = .ok (.putfield 32, 3) by decide +kernel) (show pl 6 32 = some (0, 6, 5, 0) by decide +kernel) (by decide) (sh_ok hG (by decide +kernel)) ?_
  refine e_P (st' := [aI 0]) (show decode (mC 57) 5 = .ok (.iconst 0, 1) by decide +kernel) rfl rfl rfl ?_
  refine e_L (L' := [some (aR 136), some (aI 0), none]) (st' := []) (show decode (mC 57) 6 = .ok (.istore_n 1, 1) by decide +kernel) rfl rfl ?_
  exact k0
/-- SoulOffice$Nets.collect()V, from 7 -/
theorem b57_7 (hG : Shp G) {v1 x1 : Int}
    (ex1 : c 9 1 = x1)
    (s1 : -2147483648 ≤ v1 ∧ v1 < 2147483648)
    (s2 : -2147483648 ≤ x1 ∧ x1 < 2147483648)
    (z3 : (x1 ≤ v1) → Q (.inl none) (G, c))
    (m4 : (v1 < x1) → TM d 23 [aR 27, aI v1] (G, c) (fun r h' => T (d + 1) 57 26 [some (aR 136), some (aI v1), none] (r.toList ++ []) h' Q)) :
    T (d + 1) 57 7 [some (aR 136), some (aI v1), none] [] (G, c) Q := by
  refine e_L (L' := [some (aR 136), some (aI v1), none]) (st' := [aI v1]) (show decode (mC 57) 7 = .ok (.iload_n 1, 1) by decide +kernel) rfl rfl ?_
  refine e_L (L' := [some (aR 136), some (aI v1), none]) (st' := [aR 136, aI v1]) (show decode (mC 57) 8 = .ok (.aload_n 0, 1) by decide +kernel) rfl (by show (if 136 = 0 then none else some (_, _)) = _; rw [if_neg (by decide)]) ?_
  refine e_getR (w := 9) (show decode (mC 57) 9 = .ok (.getfield 21, 3) by decide +kernel) (show pl 6 21 = some (0, 6, 0, 0) by decide +kernel) (by decide) (sh_ok hG (by decide +kernel)) (sh_rf hG (by decide +kernel)) ?_
  refine e_getIx (show decode (mC 57) 12 = .ok (.getfield 42, 3) by decide +kernel) (show pl 6 42 = some (0, 8, 1, 0) by decide +kernel) (by decide) (sh_ok hG (by decide +kernel)) ex1 ?_
  refine e_ge2 (t := 75) (show decode (mC 57) 15 = .ok (.if_icmp .ge 60, 3) by decide +kernel) (by decide) s1 s2 (fun p1 => ?_) (fun p1 => ?_)
  · exact e_vret (show decode (mC 57) 75 = .ok (.return_, 1) by decide +kernel) rfl (z3 p1)
  · refine e_L (L' := [some (aR 136), some (aI v1), none]) (st' := [aR 136]) (show decode (mC 57) 18 = .ok (.aload_n 0, 1) by decide +kernel) rfl (by show (if 136 = 0 then none else some (_, _)) = _; rw [if_neg (by decide)]) ?_
    refine e_getR (w := 27) (show decode (mC 57) 19 = .ok (.getfield 25, 3) by decide +kernel) (show pl 6 25 = some (0, 6, 1, 0) by decide +kernel) (by decide) (sh_ok hG (by decide +kernel)) (sh_rf hG (by decide +kernel)) ?_
    refine e_L (L' := [some (aR 136), some (aI v1), none]) (st' := [aI v1, aR 27]) (show decode (mC 57) 22 = .ok (.iload_n 1, 1) by decide +kernel) rfl rfl ?_
    exact e_V (as := [aR 27, aI v1]) (rest := []) (show decode (mC 57) 23 = .ok (.invokevirtual 47, 3) by decide +kernel) (by decide +kernel) (show (decide ((2 : Nat) = mA 23) && decide (23 < q_law)) = true by decide +kernel) rfl (show (0 : Nat) ≤ 8 by decide) (show (2 : Nat) ≤ mL 23 by decide +kernel) rfl (sh_ok hG (by decide +kernel)) (m4 p1)
/-- SoulOffice$Nets.collect()V, from 26 -/
theorem b57_26 (hG : Shp G) {v1 u0 : Int}
    (m0 : TM d 22 [aR 27, aI v1] (G, c) (fun r h' => T (d + 1) 57 34 [some (aR 136), some (aI v1), none] (r.toList ++ [aI u0]) h' Q)) :
    T (d + 1) 57 26 [some (aR 136), some (aI v1), none] [aI u0] (G, c) Q := by
  refine e_L (L' := [some (aR 136), some (aI v1), none]) (st' := [aR 136, aI u0]) (show decode (mC 57) 26 = .ok (.aload_n 0, 1) by decide +kernel) rfl (by show (if 136 = 0 then none else some (_, _)) = _; rw [if_neg (by decide)]) ?_
  refine e_getR (w := 27) (show decode (mC 57) 27 = .ok (.getfield 25, 3) by decide +kernel) (show pl 6 25 = some (0, 6, 1, 0) by decide +kernel) (by decide) (sh_ok hG (by decide +kernel)) (sh_rf hG (by decide +kernel)) ?_
  refine e_L (L' := [some (aR 136), some (aI v1), none]) (st' := [aI v1, aR 27, aI u0]) (show decode (mC 57) 30 = .ok (.iload_n 1, 1) by decide +kernel) rfl rfl ?_
  exact e_V (as := [aR 27, aI v1]) (rest := [aI u0]) (show decode (mC 57) 31 = .ok (.invokevirtual 53, 3) by decide +kernel) (by decide +kernel) (show (decide ((2 : Nat) = mA 22) && decide (22 < q_law)) = true by decide +kernel) rfl (show (1 : Nat) ≤ 8 by decide) (show (2 : Nat) ≤ mL 22 by decide +kernel) rfl (sh_ok hG (by decide +kernel)) m0
/-- SoulOffice$Nets.collect()V, from 34 -/
theorem b57_34 (hG : Shp G) {v1 u0 u1 x1 x2 x3 : Int} (hQ : ∀ o o' h', q_eqo o o' → Q o h' → Q o' h')
    (s0 : -2147483648 ≤ (u0 - u1) ∧ (u0 - u1) < 2147483648)
    (k1 : ((u0 - u1) = 0) → T (d + 1) 57 7 [some (aR 136), some (aI (v1 + 1)), none] [] (G, c) Q)
    (ex1 : c 136 5 = x1)
    (s3 : (¬ (u0 - u1) = 0) → -2147483648 ≤ x1 ∧ x1 < 2147483648)
    (k4 : (¬ (u0 - u1) = 0) → (8 ≤ x1) → T (d + 1) 57 7 [some (aR 136), some (aI (v1 + 1)), none] [] (G, c) Q)
    (ex2 : c 136 5 = x2)
    (s6 : (¬ (u0 - u1) = 0) → (x1 < 8) → 0 ≤ x2)
    (s7 : (¬ (u0 - u1) = 0) → (x1 < 8) → x2 < 8)
    (ex3 : (q_up c 137 x2 (u0 - u1)) 136 5 = x3)
    (k9 : (¬ (u0 - u1) = 0) → (x1 < 8) → T (d + 1) 57 7 [some (aR 136), some (aI (v1 + 1)), none] [] (G, (q_up (q_up c 137 x2 (u0 - u1)) 136 5 (x3 + 1))) Q) :
    T (d + 1) 57 34 [some (aR 136), some (aI v1), none] [aI u1, aI u0] (G, c) Q := by
  refine e_P (st' := [aI (u0 - u1)]) (show decode (mC 57) 34 = .ok (.isub, 1) by decide +kernel) rfl rfl rfl ?_
  refine e_L (L' := [some (aR 136), some (aI v1), some (aI (u0 - u1))]) (st' := []) (show decode (mC 57) 35 = .ok (.istore_n 2, 1) by decide +kernel) rfl rfl ?_
  refine e_L (L' := [some (aR 136), some (aI v1), some (aI (u0 - u1))]) (st' := [aI (u0 - u1)]) (show decode (mC 57) 36 = .ok (.iload_n 2, 1) by decide +kernel) rfl rfl ?_
  refine e_eq1 (t := 69) (show decode (mC 57) 37 = .ok (.ifCond .eq 32, 3) by decide +kernel) (by decide) s0 (fun p1 => ?_) (fun p1 => ?_)
  · refine e_L (L' := [some (aR 136), some (aI (v1 + 1)), some (aI (u0 - u1))]) (st' := []) (show decode (mC 57) 69 = .ok (.iinc 1 1, 3) by decide +kernel) rfl rfl ?_
    refine e_go (t := 7) (show decode (mC 57) 72 = .ok (.goto (-65), 3) by decide +kernel) (by decide) ?_
    exact T_le hQ (leS (leS (leN leE))) (k1 p1)
  · refine e_L (L' := [some (aR 136), some (aI v1), some (aI (u0 - u1))]) (st' := [aR 136]) (show decode (mC 57) 40 = .ok (.aload_n 0, 1) by decide +kernel) rfl (by show (if 136 = 0 then none else some (_, _)) = _; rw [if_neg (by decide)]) ?_
    refine e_getIx (show decode (mC 57) 41 = .ok (.getfield 32, 3) by decide +kernel) (show pl 6 32 = some (0, 6, 5, 0) by decide +kernel) (by decide) (sh_ok hG (by decide +kernel)) ex1 ?_
    refine e_P (st' := [aI 8, aI x1]) (show decode (mC 57) 44 = .ok (.bipush 8, 2) by decide +kernel) rfl rfl rfl ?_
    refine e_ge2 (t := 69) (show decode (mC 57) 46 = .ok (.if_icmp .ge 23, 3) by decide +kernel) (by decide) (s3 p1) (by decide) (fun p2 => ?_) (fun p2 => ?_)
    · refine e_L (L' := [some (aR 136), some (aI (v1 + 1)), some (aI (u0 - u1))]) (st' := []) (show decode (mC 57) 69 = .ok (.iinc 1 1, 3) by decide +kernel) rfl rfl ?_
      refine e_go (t := 7) (show decode (mC 57) 72 = .ok (.goto (-65), 3) by decide +kernel) (by decide) ?_
      exact T_le hQ (leS (leS (leN leE))) (k4 p1 p2)
    · refine e_L (L' := [some (aR 136), some (aI v1), some (aI (u0 - u1))]) (st' := [aR 136]) (show decode (mC 57) 49 = .ok (.aload_n 0, 1) by decide +kernel) rfl (by show (if 136 = 0 then none else some (_, _)) = _; rw [if_neg (by decide)]) ?_
      refine e_getR (w := 137) (show decode (mC 57) 50 = .ok (.getfield 9, 3) by decide +kernel) (show pl 6 9 = some (0, 6, 2, 0) by decide +kernel) (by decide) (sh_ok hG (by decide +kernel)) (sh_rf hG (by decide +kernel)) ?_
      refine e_L (L' := [some (aR 136), some (aI v1), some (aI (u0 - u1))]) (st' := [aR 136, aR 137]) (show decode (mC 57) 53 = .ok (.aload_n 0, 1) by decide +kernel) rfl (by show (if 136 = 0 then none else some (_, _)) = _; rw [if_neg (by decide)]) ?_
      refine e_getIx (show decode (mC 57) 54 = .ok (.getfield 32, 3) by decide +kernel) (show pl 6 32 = some (0, 6, 5, 0) by decide +kernel) (by decide) (sh_ok hG (by decide +kernel)) ex2 ?_
      refine e_L (L' := [some (aR 136), some (aI v1), some (aI (u0 - u1))]) (st' := [aI (u0 - u1), aI x2, aR 137]) (show decode (mC 57) 57 = .ok (.iload_n 2, 1) by decide +kernel) rfl rfl ?_
      refine e_iast (n := 8) (show decode (mC 57) 58 = .ok (.iastore, 1) by decide +kernel) (sh_ok hG (by decide +kernel)) (sh_ln hG (by decide +kernel)) (by decide) (s6 p1 p2) (s7 p1 p2) ?_
      refine e_L (L' := [some (aR 136), some (aI v1), some (aI (u0 - u1))]) (st' := [aR 136]) (show decode (mC 57) 59 = .ok (.aload_n 0, 1) by decide +kernel) rfl (by show (if 136 = 0 then none else some (_, _)) = _; rw [if_neg (by decide)]) ?_
      refine e_P (st' := [aR 136, aR 136]) (show decode (mC 57) 60 = .ok (.dup, 1) by decide +kernel) rfl rfl rfl ?_
      refine e_getIx (show decode (mC 57) 61 = .ok (.getfield 32, 3) by decide +kernel) (show pl 6 32 = some (0, 6, 5, 0) by decide +kernel) (by decide) (sh_ok hG (by decide +kernel)) ex3 ?_
      refine e_P (st' := [aI 1, aI x3, aR 136]) (show decode (mC 57) 64 = .ok (.iconst 1, 1) by decide +kernel) rfl rfl rfl ?_
      refine e_P (st' := [aI (x3 + 1), aR 136]) (show decode (mC 57) 65 = .ok (.iadd, 1) by decide +kernel) rfl rfl rfl ?_
      refine e_putI (show decode (mC 57) 66 = .ok (.putfield 32, 3) by decide +kernel) (show pl 6 32 = some (0, 6, 5, 0) by decide +kernel) (by decide) (sh_ok hG (by decide +kernel)) ?_
      refine e_L (L' := [some (aR 136), some (aI (v1 + 1)), some (aI (u0 - u1))]) (st' := []) (show decode (mC 57) 69 = .ok (.iinc 1 1, 3) by decide +kernel) rfl rfl ?_
      refine e_go (t := 7) (show decode (mC 57) 72 = .ok (.goto (-65), 3) by decide +kernel) (by decide) ?_
      exact T_le hQ (leS (leS (leN leE))) (k9 p1 p2)
end QB16
