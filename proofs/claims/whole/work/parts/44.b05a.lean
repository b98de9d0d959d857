section QB14
variable {d : Nat} {G : GG} {c : CC} {Q : OO → HH → Prop}
/-- SoulOffice$MostSearch.clearGiven()V, from 0 -/
theorem b42_0 (hG : Shp G)
    (k0 : T d 42 2 [some (aR 124), some (aI 0)] [] (G, c) Q) :
    T d 42 0 [some (aR 124), none] [] (G, c) Q := by
  refine e_P (st' := [aI 0]) (show decode (mC 42) 0 = .ok (.iconst 0, 1) by decide +kernel) rfl rfl rfl ?_
  refine e_L (L' := [some (aR 124), some (aI 0)]) (st' := []) (show decode (mC 42) 1 = .ok (.istore_n 1, 1) by decide +kernel) rfl rfl ?_
  exact k0
/-- SoulOffice$MostSearch.clearGiven()V, from 2 -/
theorem b42_2 (hG : Shp G) {v1 : Int}
    (s0 : -2147483648 ≤ v1 ∧ v1 < 2147483648)
    (z1 : (8 ≤ v1) → Q (.inl none) (G, c))
    (s2 : (v1 < 8) → 0 ≤ v1)
    (s3 : (v1 < 8) → v1 < 8)
    (k4 : (v1 < 8) → T d 42 2 [some (aR 124), some (aI (v1 + 1))] [] (G, (q_up c 131 v1 (-1))) Q) :
    T d 42 2 [some (aR 124), some (aI v1)] [] (G, c) Q := by
  refine e_L (L' := [some (aR 124), some (aI v1)]) (st' := [aI v1]) (show decode (mC 42) 2 = .ok (.iload_n 1, 1) by decide +kernel) rfl rfl ?_
  refine e_P (st' := [aI 8, aI v1]) (show decode (mC 42) 3 = .ok (.bipush 8, 2) by decide +kernel) rfl rfl rfl ?_
  refine e_ge2 (t := 21) (show decode (mC 42) 5 = .ok (.if_icmp .ge 16, 3) by decide +kernel) (by decide) s0 (by decide) (fun p1 => ?_) (fun p1 => ?_)
  · exact e_vret (show decode (mC 42) 21 = .ok (.return_, 1) by decide +kernel) rfl (z1 p1)
  · refine e_L (L' := [some (aR 124), some (aI v1)]) (st' := [aR 124]) (show decode (mC 42) 8 = .ok (.aload_n 0, 1) by decide +kernel) rfl (by show (if 124 = 0 then none else some (_, _)) = _; rw [if_neg (by decide)]) ?_
    refine e_getR (w := 131) (show decode (mC 42) 9 = .ok (.getfield 30, 3) by decide +kernel) (show pl 5 30 = some (0, 5, 10, 0) by decide +kernel) (by decide) (sh_ok hG (by decide +kernel)) (sh_rf hG (by decide +kernel)) ?_
    refine e_L (L' := [some (aR 124), some (aI v1)]) (st' := [aI v1, aR 131]) (show decode (mC 42) 12 = .ok (.iload_n 1, 1) by decide +kernel) rfl rfl ?_
    refine e_P (st' := [aI (-1), aI v1, aR 131]) (show decode (mC 42) 13 = .ok (.iconst (-1), 1) by decide +kernel) rfl rfl rfl ?_
    refine e_iast (n := 8) (show decode (mC 42) 14 = .ok (.iastore, 1) by decide +kernel) (sh_ok hG (by decide +kernel)) (sh_ln hG (by decide +kernel)) (by decide) (s2 p1) (s3 p1) ?_
    refine e_L (L' := [some (aR 124), some (aI (v1 + 1))]) (st' := []) (show decode (mC 42) 15 = .ok (.iinc 1 1, 3) by decide +kernel) rfl rfl ?_
    refine e_go (t := 2) (show decode (mC 42) 18 = .ok (.goto (-16), 3) by decide +kernel) (by decide) ?_
    exact (k4 p1)
/-- SoulOffice$MostSearch.toldOf(I)I, from 0 -/
theorem b43_0 (hG : Shp G) {v1 x1 : Int}
    (s0 : -2147483648 ≤ v1 ∧ v1 < 2147483648)
    (z1 : (v1 < 0) → Q (.inl (some (aI (-1)))) (G, c))
    (z2 : (0 ≤ v1) → (8 ≤ v1) → Q (.inl (some (aI (-1)))) (G, c))
    (s3 : (0 ≤ v1) → (v1 < 8) → 0 ≤ v1)
    (s4 : (0 ≤ v1) → (v1 < 8) → v1 < 8)
    (ex1 : c 131 v1 = x1)
    (z6 : (0 ≤ v1) → (v1 < 8) → Q (.inl (some (aI x1))) (G, c)) :
    T d 43 0 [some (aR 124), some (aI v1)] [] (G, c) Q := by
  refine e_L (L' := [some (aR 124), some (aI v1)]) (st' := [aI v1]) (show decode (mC 43) 0 = .ok (.iload_n 1, 1) by decide +kernel) rfl rfl ?_
  refine e_lt1 (t := 19) (show decode (mC 43) 1 = .ok (.ifCond .lt 18, 3) by decide +kernel) (by decide) s0 (fun p1 => ?_) (fun p1 => ?_)
  · refine e_P (st' := [aI (-1)]) (show decode (mC 43) 19 = .ok (.iconst (-1), 1) by decide +kernel) rfl rfl rfl ?_
    exact e_iret (show decode (mC 43) 20 = .ok (.ireturn, 1) by decide +kernel) rfl (z1 p1)
  · refine e_L (L' := [some (aR 124), some (aI v1)]) (st' := [aI v1]) (show decode (mC 43) 4 = .ok (.iload_n 1, 1) by decide +kernel) rfl rfl ?_
    refine e_P (st' := [aI 8, aI v1]) (show decode (mC 43) 5 = .ok (.bipush 8, 2) by decide +kernel) rfl rfl rfl ?_
    refine e_ge2 (t := 19) (show decode (mC 43) 7 = .ok (.if_icmp .ge 12, 3) by decide +kernel) (by decide) s0 (by decide) (fun p2 => ?_) (fun p2 => ?_)
    · refine e_P (st' := [aI (-1)]) (show decode (mC 43) 19 = .ok (.iconst (-1), 1) by decide +kernel) rfl rfl rfl ?_
      exact e_iret (show decode (mC 43) 20 = .ok (.ireturn, 1) by decide +kernel) rfl (z2 p1 p2)
    · refine e_L (L' := [some (aR 124), some (aI v1)]) (st' := [aR 124]) (show decode (mC 43) 10 = .ok (.aload_n 0, 1) by decide +kernel) rfl (by show (if 124 = 0 then none else some (_, _)) = _; rw [if_neg (by decide)]) ?_
      refine e_getR (w := 131) (show decode (mC 43) 11 = .ok (.getfield 30, 3) by decide +kernel) (show pl 5 30 = some (0, 5, 10, 0) by decide +kernel) (by decide) (sh_ok hG (by decide +kernel)) (sh_rf hG (by decide +kernel)) ?_
      refine e_L (L' := [some (aR 124), some (aI v1)]) (st' := [aI v1, aR 131]) (show decode (mC 43) 14 = .ok (.iload_n 1, 1) by decide +kernel) rfl rfl ?_
      refine e_ialdx (n := 8) (show decode (mC 43) 15 = .ok (.iaload, 1) by decide +kernel) (sh_ok hG (by decide +kernel)) (sh_ln hG (by decide +kernel)) (by decide) (s3 p1 p2) (s4 p1 p2) ex1 ?_
      refine e_go (t := 20) (show decode (mC 43) 16 = .ok (.goto 4, 3) by decide +kernel) (by decide) ?_
      exact e_iret (show decode (mC 43) 20 = .ok (.ireturn, 1) by decide +kernel) rfl (z6 p1 p2)
/-- SoulOffice$MostSearch.mostSettled(I)I, from 0 -/
theorem b44_0 (hG : Shp G) {v1 : Int}
    (m0 : TM d 42 [aR 124] (G, c) (fun r h' => T (d + 1) 44 4 [some (aR 124), some (aI v1), none] (r.toList ++ []) h' Q)) :
    T (d + 1) 44 0 [some (aR 124), some (aI v1), none] [] (G, c) Q := by
  refine e_L (L' := [some (aR 124), some (aI v1), none]) (st' := [aR 124]) (show decode (mC 44) 0 = .ok (.aload_n 0, 1) by decide +kernel) rfl (by show (if 124 = 0 then none else some (_, _)) = _; rw [if_neg (by decide)]) ?_
  exact e_V (as := [aR 124]) (rest := []) (show decode (mC 44) 1 = .ok (.invokevirtual 41, 3) by decide +kernel) (by decide +kernel) (show (decide ((1 : Nat) = mA 42) && decide (42 < q_law)) = true by decide +kernel) rfl (show (0 : Nat) ≤ 8 by decide) (show (1 : Nat) ≤ mL 42 by decide +kernel) rfl (sh_ok hG (by decide +kernel)) m0
/-- SoulOffice$MostSearch.mostSettled(I)I, from 4 -/
theorem b44_4 (hG : Shp G) {v1 : Int}
    (k0 : T (d + 1) 44 11 [some (aR 124), some (aI v1), some (aI 0)] [] (G, (q_up c 124 3 0)) Q) :
    T (d + 1) 44 4 [some (aR 124), some (aI v1), none] [] (G, c) Q := by
  refine e_L (L' := [some (aR 124), some (aI v1), none]) (st' := [aR 124]) (show decode (mC 44) 4 = .ok (.aload_n 0, 1) by decide +kernel) rfl (by show (if 124 = 0 then none else some (_, _)) = _; rw [if_neg (by decide)]) ?_
  refine e_P (st' := [aI 0, aR 124]) (show decode (mC 44) 5 = .ok (.iconst 0, 1) by decide +kernel) rfl rfl rfl ?_
  refine e_putI (show decode (mC 44) 6 = .ok (.putfield 44, 3) by decide +kernel) (show pl 5 44 = some (0, 5, 3, 0) by decide +kernel) (by decide) (sh_ok hG (by decide +kernel)) ?_
  refine e_P (st' := [aI 0]) (show decode (mC 44) 9 = .ok (.iconst 0, 1) by decide +kernel) rfl rfl rfl ?_
  refine e_L (L' := [some (aR 124), some (aI v1), some (aI 0)]) (st' := []) (show decode (mC 44) 10 = .ok (.istore_n 2, 1) by decide +kernel) rfl rfl ?_
  exact k0
/-- SoulOffice$MostSearch.mostSettled(I)I, from 11 -/
theorem b44_11 (hG : Shp G) {v1 v2 x1 x2 x3 x4 x5 : Int} (hQ : ∀ o o' h', q_eqo o o' → Q o h' → Q o' h')
    (ex1 : c 9 1 = x1)
    (s1 : -2147483648 ≤ v2 ∧ v2 < 2147483648)
    (s2 : -2147483648 ≤ x1 ∧ x1 < 2147483648)
    (m3 : (x1 ≤ v2) → TM d 46 [aR 124, aI v1] (G, (q_uf c 129 (q_cp (c 32) (c 129) 0 0 6))) (fun r h' => T (d + 1) 44 92 [some (aR 124), some (aI v1), none] (r.toList ++ []) h' Q))
    (s4 : (v2 < x1) → 0 ≤ v2)
    (s5 : (v2 < x1) → v2 < 8)
    (ex2 : c 28 v2 = x2)
    (s7 : (v2 < x1) → -2147483648 ≤ x2 ∧ x2 < 2147483648)
    (k8 : (v2 < x1) → (¬ x2 = (-1)) → T (d + 1) 44 11 [some (aR 124), some (aI v1), some (aI (v2 + 1))] [] (G, c) Q)
    (ex3 : c 124 3 = x3)
    (s10 : (v2 < x1) → (x2 = (-1)) → -2147483648 ≤ x3 ∧ x3 < 2147483648)
    (k11 : (v2 < x1) → (x2 = (-1)) → (5 ≤ x3) → T (d + 1) 44 11 [some (aR 124), some (aI v1), some (aI (v2 + 1))] [] (G, c) Q)
    (ex4 : c 124 3 = x4)
    (s13 : (v2 < x1) → (x2 = (-1)) → (x3 < 5) → 0 ≤ x4)
    (s14 : (v2 < x1) → (x2 = (-1)) → (x3 < 5) → x4 < 5)
    (ex5 : (q_up c 125 x4 v2) 124 3 = x5)
    (k16 : (v2 < x1) → (x2 = (-1)) → (x3 < 5) → T (d + 1) 44 11 [some (aR 124), some (aI v1), some (aI (v2 + 1))] [] (G, (q_up (q_up c 125 x4 v2) 124 3 (x5 + 1))) Q) :
    T (d + 1) 44 11 [some (aR 124), some (aI v1), some (aI v2)] [] (G, c) Q := by
  refine e_L (L' := [some (aR 124), some (aI v1), some (aI v2)]) (st' := [aI v2]) (show decode (mC 44) 11 = .ok (.iload_n 2, 1) by decide +kernel) rfl rfl ?_
  refine e_L (L' := [some (aR 124), some (aI v1), some (aI v2)]) (st' := [aR 124, aI v2]) (show decode (mC 44) 12 = .ok (.aload_n 0, 1) by decide +kernel) rfl (by show (if 124 = 0 then none else some (_, _)) = _; rw [if_neg (by decide)]) ?_
  refine e_getR (w := 9) (show decode (mC 44) 13 = .ok (.getfield 33, 3) by decide +kernel) (show pl 5 33 = some (0, 5, 0, 0) by decide +kernel) (by decide) (sh_ok hG (by decide +kernel)) (sh_rf hG (by decide +kernel)) ?_
  refine e_getIx (show decode (mC 44) 16 = .ok (.getfield 48, 3) by decide +kernel) (show pl 5 48 = some (0, 8, 1, 0) by decide +kernel) (by decide) (sh_ok hG (by decide +kernel)) ex1 ?_
  refine e_ge2 (t := 69) (show decode (mC 44) 19 = .ok (.if_icmp .ge 50, 3) by decide +kernel) (by decide) s1 s2 (fun p1 => ?_) (fun p1 => ?_)
  · refine e_L (L' := [some (aR 124), some (aI v1), some (aI v2)]) (st' := [aR 124]) (show decode (mC 44) 69 = .ok (.aload_n 0, 1) by decide +kernel) rfl (by show (if 124 = 0 then none else some (_, _)) = _; rw [if_neg (by decide)]) ?_
    refine e_getR (w := 27) (show decode (mC 44) 70 = .ok (.getfield 37, 3) by decide +kernel) (show pl 5 37 = some (0, 5, 1, 0) by decide +kernel) (by decide) (sh_ok hG (by decide +kernel)) (sh_rf hG (by decide +kernel)) ?_
    refine e_getR (w := 32) (show decode (mC 44) 73 = .ok (.getfield 58, 3) by decide +kernel) (show pl 5 58 = some (0, 4, 8, 0) by decide +kernel) (by decide) (sh_ok hG (by decide +kernel)) (sh_rf hG (by decide +kernel)) ?_
    refine e_P (st' := [aI 0, aR 32]) (show decode (mC 44) 76 = .ok (.iconst 0, 1) by decide +kernel) rfl rfl rfl ?_
    refine e_L (L' := [some (aR 124), some (aI v1), some (aI v2)]) (st' := [aR 124, aI 0, aR 32]) (show decode (mC 44) 77 = .ok (.aload_n 0, 1) by decide +kernel) rfl (by show (if 124 = 0 then none else some (_, _)) = _; rw [if_neg (by decide)]) ?_
    refine e_getR (w := 129) (show decode (mC 44) 78 = .ok (.getfield 24, 3) by decide +kernel) (show pl 5 24 = some (0, 5, 7, 0) by decide +kernel) (by decide) (sh_ok hG (by decide +kernel)) (sh_rf hG (by decide +kernel)) ?_
    refine e_P (st' := [aI 0, aR 129, aI 0, aR 32]) (show decode (mC 44) 81 = .ok (.iconst 0, 1) by decide +kernel) rfl rfl rfl ?_
    refine e_P (st' := [aI 6, aI 0, aR 129, aI 0, aR 32]) (show decode (mC 44) 82 = .ok (.bipush 6, 2) by decide +kernel) rfl rfl rfl ?_
    refine e_acp (n := 6) (n2 := 6) (show decode (mC 44) 84 = .ok (.invokestatic 59, 3) by decide +kernel) (show pl 5 59 = some (10, 0, 0, 0) by decide +kernel) (Or.inl ⟨(sh_ok hG (by decide +kernel)), (sh_ok hG (by decide +kernel))⟩) (sh_ln hG (by decide +kernel)) (sh_ln hG (by decide +kernel)) (by decide) (show (0 : Nat) ≤ 20 by decide) ?_
    refine e_L (L' := [some (aR 124), some (aI v1), some (aI v2)]) (st' := [aR 124]) (show decode (mC 44) 87 = .ok (.aload_n 0, 1) by decide +kernel) rfl (by show (if 124 = 0 then none else some (_, _)) = _; rw [if_neg (by decide)]) ?_
    refine e_L (L' := [some (aR 124), some (aI v1), some (aI v2)]) (st' := [aI v1, aR 124]) (show decode (mC 44) 88 = .ok (.iload_n 1, 1) by decide +kernel) rfl rfl ?_
    exact e_V (as := [aR 124, aI v1]) (rest := []) (show decode (mC 44) 89 = .ok (.invokevirtual 65, 3) by decide +kernel) (by decide +kernel) (show (decide ((2 : Nat) = mA 46) && decide (46 < q_law)) = true by decide +kernel) rfl (show (0 : Nat) ≤ 8 by decide) (show (2 : Nat) ≤ mL 46 by decide +kernel) rfl (sh_ok hG (by decide +kernel)) (tm_le hQ (leS (leS (leN leE))) (m3 p1))
  · refine e_L (L' := [some (aR 124), some (aI v1), some (aI v2)]) (st' := [aR 124]) (show decode (mC 44) 22 = .ok (.aload_n 0, 1) by decide +kernel) rfl (by show (if 124 = 0 then none else some (_, _)) = _; rw [if_neg (by decide)]) ?_
    refine e_getR (w := 27) (show decode (mC 44) 23 = .ok (.getfield 37, 3) by decide +kernel) (show pl 5 37 = some (0, 5, 1, 0) by decide +kernel) (by decide) (sh_ok hG (by decide +kernel)) (sh_rf hG (by decide +kernel)) ?_
    refine e_getR (w := 28) (show decode (mC 44) 26 = .ok (.getfield 53, 3) by decide +kernel) (show pl 5 53 = some (0, 4, 4, 0) by decide +kernel) (by decide) (sh_ok hG (by decide +kernel)) (sh_rf hG (by decide +kernel)) ?_
    refine e_L (L' := [some (aR 124), some (aI v1), some (aI v2)]) (st' := [aI v2, aR 28]) (show decode (mC 44) 29 = .ok (.iload_n 2, 1) by decide +kernel) rfl rfl ?_
    refine e_ialdx (n := 8) (show decode (mC 44) 30 = .ok (.iaload, 1) by decide +kernel) (sh_ok hG (by decide +kernel)) (sh_ln hG (by decide +kernel)) (by decide) (s4 p1) (s5 p1) ex2 ?_
    refine e_P (st' := [aI (-1), aI x2]) (show decode (mC 44) 31 = .ok (.iconst (-1), 1) by decide +kernel) rfl rfl rfl ?_
    refine e_ne2 (t := 63) (show decode (mC 44) 32 = .ok (.if_icmp .ne 31, 3) by decide +kernel) (by decide) (s7 p1) (by decide) (fun p2 => ?_) (fun p2 => ?_)
    · refine e_L (L' := [some (aR 124), some (aI v1), some (aI (v2 + 1))]) (st' := []) (show decode (mC 44) 63 = .ok (.iinc 2 1, 3) by decide +kernel) rfl rfl ?_
      refine e_go (t := 11) (show decode (mC 44) 66 = .ok (.goto (-55), 3) by decide +kernel) (by decide) ?_
      exact (k8 p1 p2)
    · refine e_L (L' := [some (aR 124), some (aI v1), some (aI v2)]) (st' := [aR 124]) (show decode (mC 44) 35 = .ok (.aload_n 0, 1) by decide +kernel) rfl (by show (if 124 = 0 then none else some (_, _)) = _; rw [if_neg (by decide)]) ?_
      refine e_getIx (show decode (mC 44) 36 = .ok (.getfield 44, 3) by decide +kernel) (show pl 5 44 = some (0, 5, 3, 0) by decide +kernel) (by decide) (sh_ok hG (by decide +kernel)) ex3 ?_
      refine e_P (st' := [aI 5, aI x3]) (show decode (mC 44) 39 = .ok (.iconst 5, 1) by decide +kernel) rfl rfl rfl ?_
      refine e_ge2 (t := 63) (show decode (mC 44) 40 = .ok (.if_icmp .ge 23, 3) by decide +kernel) (by decide) (s10 p1 p2) (by decide) (fun p3 => ?_) (fun p3 => ?_)
      · refine e_L (L' := [some (aR 124), some (aI v1), some (aI (v2 + 1))]) (st' := []) (show decode (mC 44) 63 = .ok (.iinc 2 1, 3) by decide +kernel) rfl rfl ?_
        refine e_go (t := 11) (show decode (mC 44) 66 = .ok (.goto (-55), 3) by decide +kernel) (by decide) ?_
        exact (k11 p1 p2 p3)
      · refine e_L (L' := [some (aR 124), some (aI v1), some (aI v2)]) (st' := [aR 124]) (show decode (mC 44) 43 = .ok (.aload_n 0, 1) by decide +kernel) rfl (by show (if 124 = 0 then none else some (_, _)) = _; rw [if_neg (by decide)]) ?_
        refine e_getR (w := 125) (show decode (mC 44) 44 = .ok (.getfield 9, 3) by decide +kernel) (show pl 5 9 = some (0, 5, 2, 0) by decide +kernel) (by decide) (sh_ok hG (by decide +kernel)) (sh_rf hG (by decide +kernel)) ?_
        refine e_L (L' := [some (aR 124), some (aI v1), some (aI v2)]) (st' := [aR 124, aR 125]) (show decode (mC 44) 47 = .ok (.aload_n 0, 1) by decide +kernel) rfl (by show (if 124 = 0 then none else some (_, _)) = _; rw [if_neg (by decide)]) ?_
        refine e_getIx (show decode (mC 44) 48 = .ok (.getfield 44, 3) by decide +kernel) (show pl 5 44 = some (0, 5, 3, 0) by decide +kernel) (by decide) (sh_ok hG (by decide +kernel)) ex4 ?_
        refine e_L (L' := [some (aR 124), some (aI v1), some (aI v2)]) (st' := [aI v2, aI x4, aR 125]) (show decode (mC 44) 51 = .ok (.iload_n 2, 1) by decide +kernel) rfl rfl ?_
        refine e_iast (n := 5) (show decode (mC 44) 52 = .ok (.iastore, 1) by decide +kernel) (sh_ok hG (by decide +kernel)) (sh_ln hG (by decide +kernel)) (by decide) (s13 p1 p2 p3) (s14 p1 p2 p3) ?_
        refine e_L (L' := [some (aR 124), some (aI v1), some (aI v2)]) (st' := [aR 124]) (show decode (mC 44) 53 = .ok (.aload_n 0, 1) by decide +kernel) rfl (by show (if 124 = 0 then none else some (_, _)) = _; rw [if_neg (by decide)]) ?_
        refine e_P (st' := [aR 124, aR 124]) (show decode (mC 44) 54 = .ok (.dup, 1) by decide +kernel) rfl rfl rfl ?_
        refine e_getIx (show decode (mC 44) 55 = .ok (.getfield 44, 3) by decide +kernel) (show pl 5 44 = some (0, 5, 3, 0) by decide +kernel) (by decide) (sh_ok hG (by decide +kernel)) ex5 ?_
        refine e_P (st' := [aI 1, aI x5, aR 124]) (show decode (mC 44) 58 = .ok (.iconst 1, 1) by decide +kernel) rfl rfl rfl ?_
        refine e_P (st' := [aI (x5 + 1), aR 124]) (show decode (mC 44) 59 = .ok (.iadd, 1) by decide +kernel) rfl rfl rfl ?_
        refine e_putI (show decode (mC 44) 60 = .ok (.putfield 44, 3) by decide +kernel) (show pl 5 44 = some (0, 5, 3, 0) by decide +kernel) (by decide) (sh_ok hG (by decide +kernel)) ?_
        refine e_L (L' := [some (aR 124), some (aI v1), some (aI (v2 + 1))]) (st' := []) (show decode (mC 44) 63 = .ok (.iinc 2 1, 3) by decide +kernel) rfl rfl ?_
        refine e_go (t := 11) (show decode (mC 44) 66 = .ok (.goto (-55), 3) by decide +kernel) (by decide) ?_
        exact (k16 p1 p2 p3)
/-- SoulOffice$MostSearch.mostSettled(I)I, from 92 -/
theorem b44_92 (hG : Shp G) {v1 : Int} (hQ : ∀ o o' h', q_eqo o o' → Q o h' → Q o' h')
    (m0 : TM d 45 [aR 124, aI v1] (G, (q_up c 124 9 (-1))) (fun r h' => T (d + 1) 44 104 [some (aR 124), none, none] (r.toList ++ [aI 0, aR 124]) h' Q)) :
    T (d + 1) 44 92 [some (aR 124), some (aI v1), none] [] (G, c) Q := by
  refine e_L (L' := [some (aR 124), some (aI v1), none]) (st' := [aR 124]) (show decode (mC 44) 92 = .ok (.aload_n 0, 1) by decide +kernel) rfl (by show (if 124 = 0 then none else some (_, _)) = _; rw [if_neg (by decide)]) ?_
  refine e_P (st' := [aI (-1), aR 124]) (show decode (mC 44) 93 = .ok (.iconst (-1), 1) by decide +kernel) rfl rfl rfl ?_
  refine e_putI (show decode (mC 44) 94 = .ok (.putfield 69, 3) by decide +kernel) (show pl 5 69 = some (0, 5, 9, 0) by decide +kernel) (by decide) (sh_ok hG (by decide +kernel)) ?_
  refine e_L (L' := [some (aR 124), some (aI v1), none]) (st' := [aR 124]) (show decode (mC 44) 97 = .ok (.aload_n 0, 1) by decide +kernel) rfl (by show (if 124 = 0 then none else some (_, _)) = _; rw [if_neg (by decide)]) ?_
  refine e_P (st' := [aI 0, aR 124]) (show decode (mC 44) 98 = .ok (.iconst 0, 1) by decide +kernel) rfl rfl rfl ?_
  refine e_L (L' := [some (aR 124), some (aI v1), none]) (st' := [aR 124, aI 0, aR 124]) (show decode (mC 44) 99 = .ok (.aload_n 0, 1) by decide +kernel) rfl (by show (if 124 = 0 then none else some (_, _)) = _; rw [if_neg (by decide)]) ?_
  refine e_L (L' := [some (aR 124), some (aI v1), none]) (st' := [aI v1, aR 124, aI 0, aR 124]) (show decode (mC 44) 100 = .ok (.iload_n 1, 1) by decide +kernel) rfl rfl ?_
  exact e_V (as := [aR 124, aI v1]) (rest := [aI 0, aR 124]) (show decode (mC 44) 101 = .ok (.invokevirtual 72, 3) by decide +kernel) (by decide +kernel) (show (decide ((2 : Nat) = mA 45) && decide (45 < q_law)) = true by decide +kernel) rfl (show (2 : Nat) ≤ 8 by decide) (show (2 : Nat) ≤ mL 45 by decide +kernel) rfl (sh_ok hG (by decide +kernel)) (tm_le hQ (leS (leN (leS leE))) m0)
/-- SoulOffice$MostSearch.mostSettled(I)I, from 104 -/
theorem b44_104 (hG : Shp G) {u1 u2 : Int}
    (m0 : TM d 52 [aR 124, aI u1, aI u2] (G, c) (fun r h' => T (d + 1) 44 107 [some (aR 124), none, none] (r.toList ++ []) h' Q)) :
    T (d + 1) 44 104 [some (aR 124), none, none] [aI u2, aI u1, aR 124] (G, c) Q := by
  exact e_V (as := [aR 124, aI u1, aI u2]) (rest := []) (show decode (mC 44) 104 = .ok (.invokevirtual 76, 3) by decide +kernel) (by decide +kernel) (show (decide ((3 : Nat) = mA 52) && decide (52 < q_law)) = true by decide +kernel) rfl (show (0 : Nat) ≤ 8 by decide) (show (3 : Nat) ≤ mL 52 by decide +kernel) rfl (sh_ok hG (by decide +kernel)) m0
/-- SoulOffice$MostSearch.mostSettled(I)I, from 107 -/
theorem b44_107 (hG : Shp G) {x1 : Int}
    (ex1 : c 124 9 = x1)
    (z1 : Q (.inl (some (aI x1))) (G, c)) :
    T (d + 1) 44 107 [some (aR 124), none, none] [] (G, c) Q := by
  refine e_L (L' := [some (aR 124), none, none]) (st' := [aR 124]) (show decode (mC 44) 107 = .ok (.aload_n 0, 1) by decide +kernel) rfl (by show (if 124 = 0 then none else some (_, _)) = _; rw [if_neg (by decide)]) ?_
  refine e_getIx (show decode (mC 44) 108 = .ok (.getfield 69, 3) by decide +kernel) (show pl 5 69 = some (0, 5, 9, 0) by decide +kernel) (by decide) (sh_ok hG (by decide +kernel)) ex1 ?_
  exact e_iret (show decode (mC 44) 111 = .ok (.ireturn, 1) by decide +kernel) rfl z1
/-- SoulOffice$MostSearch.byTheLiving(I)I, from 0 -/
theorem b45_0 (hG : Shp G) {v1 : Int}
    (k0 : T (d + 1) 45 4 [some (aR 124), some (aI v1), some (aI 0), some (aI 0), none, none] [] (G, c) Q) :
    T (d + 1) 45 0 [some (aR 124), some (aI v1), none, none, none, none] [] (G, c) Q := by
  refine e_P (st' := [aI 0]) (show decode (mC 45) 0 = .ok (.iconst 0, 1) by decide +kernel) rfl rfl rfl ?_
  refine e_L (L' := [some (aR 124), some (aI v1), some (aI 0), none, none, none]) (st' := []) (show decode (mC 45) 1 = .ok (.istore_n 2, 1) by decide +kernel) rfl rfl ?_
  refine e_P (st' := [aI 0]) (show decode (mC 45) 2 = .ok (.iconst 0, 1) by decide +kernel) rfl rfl rfl ?_
  refine e_L (L' := [some (aR 124), some (aI v1), some (aI 0), some (aI 0), none, none]) (st' := []) (show decode (mC 45) 3 = .ok (.istore_n 3, 1) by decide +kernel) rfl rfl ?_
  exact k0
/-- SoulOffice$MostSearch.byTheLiving(I)I, from 4 -/
theorem b45_4 (hG : Shp G) {v1 v2 v3 x1 : Int}
    (ex1 : c 9 1 = x1)
    (s1 : -2147483648 ≤ v3 ∧ v3 < 2147483648)
    (s2 : -2147483648 ≤ x1 ∧ x1 < 2147483648)
    (z3 : (x1 ≤ v3) → Q (.inl (some (aI v2))) (G, c))
    (k4 : (v3 < x1) → T (d + 1) 45 20 [some (aR 124), some (aI v1), some (aI v2), some (aI v3), some (aI (v3 + 1)), none] [] (G, c) Q) :
    T (d + 1) 45 4 [some (aR 124), some (aI v1), some (aI v2), some (aI v3), none, none] [] (G, c) Q := by
  refine e_L (L' := [some (aR 124), some (aI v1), some (aI v2), some (aI v3), none, none]) (st' := [aI v3]) (show decode (mC 45) 4 = .ok (.iload_n 3, 1) by decide +kernel) rfl rfl ?_
  refine e_L (L' := [some (aR 124), some (aI v1), some (aI v2), some (aI v3), none, none]) (st' := [aR 124, aI v3]) (show decode (mC 45) 5 = .ok (.aload_n 0, 1) by decide +kernel) rfl (by show (if 124 = 0 then none else some (_, _)) = _; rw [if_neg (by decide)]) ?_
  refine e_getR (w := 9) (show decode (mC 45) 6 = .ok (.getfield 33, 3) by decide +kernel) (show pl 5 33 = some (0, 5, 0, 0) by decide +kernel) (by decide) (sh_ok hG (by decide +kernel)) (sh_rf hG (by decide +kernel)) ?_
  refine e_getIx (show decode (mC 45) 9 = .ok (.getfield 48, 3) by decide +kernel) (show pl 5 48 = some (0, 8, 1, 0) by decide +kernel) (by decide) (sh_ok hG (by decide +kernel)) ex1 ?_
  refine e_ge2 (t := 141) (show decode (mC 45) 12 = .ok (.if_icmp .ge 129, 3) by decide +kernel) (by decide) s1 s2 (fun p1 => ?_) (fun p1 => ?_)
  · refine e_L (L' := [some (aR 124), some (aI v1), some (aI v2), some (aI v3), none, none]) (st' := [aI v2]) (show decode (mC 45) 141 = .ok (.iload_n 2, 1) by decide +kernel) rfl rfl ?_
    exact e_iret (show decode (mC 45) 142 = .ok (.ireturn, 1) by decide +kernel) rfl (z3 p1)
  · refine e_L (L' := [some (aR 124), some (aI v1), some (aI v2), some (aI v3), none, none]) (st' := [aI v3]) (show decode (mC 45) 15 = .ok (.iload_n 3, 1) by decide +kernel) rfl rfl ?_
    refine e_P (st' := [aI 1, aI v3]) (show decode (mC 45) 16 = .ok (.iconst 1, 1) by decide +kernel) rfl rfl rfl ?_
    refine e_P (st' := [aI (v3 + 1)]) (show decode (mC 45) 17 = .ok (.iadd, 1) by decide +kernel) rfl rfl rfl ?_
    refine e_L (L' := [some (aR 124), some (aI v1), some (aI v2), some (aI v3), some (aI (v3 + 1)), none]) (st' := []) (show decode (mC 45) 18 = .ok (.istore 4, 2) by decide +kernel) rfl rfl ?_
    exact (k4 p1)
/-- SoulOffice$MostSearch.byTheLiving(I)I, from 20 -/
theorem b45_20 (hG : Shp G) {v1 v2 v3 v4 x1 x2 x3 x4 x5 x6 x7 : Int} (hQ : ∀ o o' h', q_eqo o o' → Q o h' → Q o' h')
    (ex1 : c 9 1 = x1)
    (s1 : -2147483648 ≤ v4 ∧ v4 < 2147483648)
    (s2 : -2147483648 ≤ x1 ∧ x1 < 2147483648)
    (k3 : (x1 ≤ v4) → T (d + 1) 45 4 [some (aR 124), some (aI v1), some (aI v2), some (aI (v3 + 1)), none, none] [] (G, c) Q)
    (s4 : (v4 < x1) → 0 ≤ v3)
    (s5 : (v4 < x1) → v3 < 8)
    (ex2 : c 28 v3 = x2)
    (s7 : (v4 < x1) → -2147483648 ≤ x2 ∧ x2 < 2147483648)
    (k8 : (v4 < x1) → (x2 = (-1)) → T (d + 1) 45 20 [some (aR 124), some (aI v1), some (aI v2), some (aI v3), some (aI (v4 + 1)), none] [] (G, c) Q)
    (s9 : (v4 < x1) → (¬ x2 = (-1)) → 0 ≤ v4)
    (s10 : (v4 < x1) → (¬ x2 = (-1)) → v4 < 8)
    (ex3 : c 28 v4 = x3)
    (s12 : (v4 < x1) → (¬ x2 = (-1)) → -2147483648 ≤ x3 ∧ x3 < 2147483648)
    (k13 : (v4 < x1) → (¬ x2 = (-1)) → (x3 = (-1)) → T (d + 1) 45 20 [some (aR 124), some (aI v1), some (aI v2), some (aI v3), some (aI (v4 + 1)), none] [] (G, c) Q)
    (ex4 : c 29 v3 = x4)
    (ex5 : c 29 v4 = x5)
    (s16 : (v4 < x1) → (¬ x2 = (-1)) → (¬ x3 = (-1)) → -2147483648 ≤ x4 ∧ x4 < 2147483648)
    (s17 : (v4 < x1) → (¬ x2 = (-1)) → (¬ x3 = (-1)) → -2147483648 ≤ x5 ∧ x5 < 2147483648)
    (s18 : (v4 < x1) → (¬ x2 = (-1)) → (¬ x3 = (-1)) → -2147483648 ≤ v1 ∧ v1 < 2147483648)
    (s19 : (v4 < x1) → (¬ x2 = (-1)) → (¬ x3 = (-1)) → -2147483648 ≤ (if x5 < x4 then x5 else x4) ∧ (if x5 < x4 then x5 else x4) < 2147483648)
    (ex6 : c 28 v3 = x6)
    (ex7 : c 28 v4 = x7)
    (m22 : (v4 < x1) → (¬ x2 = (-1)) → (¬ x3 = (-1)) → TM d 152 [aI x6, aI x7] (G, c) (fun r h' => T (d + 1) 45 121 [some (aR 124), some (aI v1), none, some (aI v3), some (aI v4), some (aI (if (if x5 < x4 then x5 else x4) < v1 then (if x5 < x4 then x5 else x4) else v1))] (r.toList ++ [aR 14, aI v4, aI v3, aR 124, aI v2]) h' Q)) :
    T (d + 1) 45 20 [some (aR 124), some (aI v1), some (aI v2), some (aI v3), some (aI v4), none] [] (G, c) Q := by
  refine e_L (L' := [some (aR 124), some (aI v1), some (aI v2), some (aI v3), some (aI v4), none]) (st' := [aI v4]) (show decode (mC 45) 20 = .ok (.iload 4, 2) by decide +kernel) rfl rfl ?_
  refine e_L (L' := [some (aR 124), some (aI v1), some (aI v2), some (aI v3), some (aI v4), none]) (st' := [aR 124, aI v4]) (show decode (mC 45) 22 = .ok (.aload_n 0, 1) by decide +kernel) rfl (by show (if 124 = 0 then none else some (_, _)) = _; rw [if_neg (by decide)]) ?_
  refine e_getR (w := 9) (show decode (mC 45) 23 = .ok (.getfield 33, 3) by decide +kernel) (show pl 5 33 = some (0, 5, 0, 0) by decide +kernel) (by decide) (sh_ok hG (by decide +kernel)) (sh_rf hG (by decide +kernel)) ?_
  refine e_getIx (show decode (mC 45) 26 = .ok (.getfield 48, 3) by decide +kernel) (show pl 5 48 = some (0, 8, 1, 0) by decide +kernel) (by decide) (sh_ok hG (by decide +kernel)) ex1 ?_
  refine e_ge2 (t := 135) (show decode (mC 45) 29 = .ok (.if_icmp .ge 106, 3) by decide +kernel) (by decide) s1 s2 (fun p1 => ?_) (fun p1 => ?_)
  · refine e_L (L' := [some (aR 124), some (aI v1), some (aI v2), some (aI (v3 + 1)), some (aI v4), none]) (st' := []) (show decode (mC 45) 135 = .ok (.iinc 3 1, 3) by decide +kernel) rfl rfl ?_
    refine e_go (t := 4) (show decode (mC 45) 138 = .ok (.goto (-134), 3) by decide +kernel) (by decide) ?_
    exact T_le hQ (leS (leS (leS (leS (leN (leS leE)))))) (k3 p1)
  · refine e_L (L' := [some (aR 124), some (aI v1), some (aI v2), some (aI v3), some (aI v4), none]) (st' := [aR 124]) (show decode (mC 45) 32 = .ok (.aload_n 0, 1) by decide +kernel) rfl (by show (if 124 = 0 then none else some (_, _)) = _; rw [if_neg (by decide)]) ?_
    refine e_getR (w := 27) (show decode (mC 45) 33 = .ok (.getfield 37, 3) by decide +kernel) (show pl 5 37 = some (0, 5, 1, 0) by decide +kernel) (by decide) (sh_ok hG (by decide +kernel)) (sh_rf hG (by decide +kernel)) ?_
    refine e_getR (w := 28) (show decode (mC 45) 36 = .ok (.getfield 53, 3) by decide +kernel) (show pl 5 53 = some (0, 4, 4, 0) by decide +kernel) (by decide) (sh_ok hG (by decide +kernel)) (sh_rf hG (by decide +kernel)) ?_
    refine e_L (L' := [some (aR 124), some (aI v1), some (aI v2), some (aI v3), some (aI v4), none]) (st' := [aI v3, aR 28]) (show decode (mC 45) 39 = .ok (.iload_n 3, 1) by decide +kernel) rfl rfl ?_
    refine e_ialdx (n := 8) (show decode (mC 45) 40 = .ok (.iaload, 1) by decide +kernel) (sh_ok hG (by decide +kernel)) (sh_ln hG (by decide +kernel)) (by decide) (s4 p1) (s5 p1) ex2 ?_
    refine e_P (st' := [aI (-1), aI x2]) (show decode (mC 45) 41 = .ok (.iconst (-1), 1) by decide +kernel) rfl rfl rfl ?_
    refine e_eq2 (t := 129) (show decode (mC 45) 42 = .ok (.if_icmp .eq 87, 3) by decide +kernel) (by decide) (s7 p1) (by decide) (fun p2 => ?_) (fun p2 => ?_)
    · refine e_L (L' := [some (aR 124), some (aI v1), some (aI v2), some (aI v3), some (aI (v4 + 1)), none]) (st' := []) (show decode (mC 45) 129 = .ok (.iinc 4 1, 3) by decide +kernel) rfl rfl ?_
      refine e_go (t := 20) (show decode (mC 45) 132 = .ok (.goto (-112), 3) by decide +kernel) (by decide) ?_
      exact (k8 p1 p2)
    · refine e_L (L' := [some (aR 124), some (aI v1), some (aI v2), some (aI v3), some (aI v4), none]) (st' := [aR 124]) (show decode (mC 45) 45 = .ok (.aload_n 0, 1) by decide +kernel) rfl (by show (if 124 = 0 then none else some (_, _)) = _; rw [if_neg (by decide)]) ?_
      refine e_getR (w := 27) (show decode (mC 45) 46 = .ok (.getfield 37, 3) by decide +kernel) (show pl 5 37 = some (0, 5, 1, 0) by decide +kernel) (by decide) (sh_ok hG (by decide +kernel)) (sh_rf hG (by decide +kernel)) ?_
      refine e_getR (w := 28) (show decode (mC 45) 49 = .ok (.getfield 53, 3) by decide +kernel) (show pl 5 53 = some (0, 4, 4, 0) by decide +kernel) (by decide) (sh_ok hG (by decide +kernel)) (sh_rf hG (by decide +kernel)) ?_
      refine e_L (L' := [some (aR 124), some (aI v1), some (aI v2), some (aI v3), some (aI v4), none]) (st' := [aI v4, aR 28]) (show decode (mC 45) 52 = .ok (.iload 4, 2) by decide +kernel) rfl rfl ?_
      refine e_ialdx (n := 8) (show decode (mC 45) 54 = .ok (.iaload, 1) by decide +kernel) (sh_ok hG (by decide +kernel)) (sh_ln hG (by decide +kernel)) (by decide) (s9 p1 p2) (s10 p1 p2) ex3 ?_
      refine e_P (st' := [aI (-1), aI x3]) (show decode (mC 45) 55 = .ok (.iconst (-1), 1) by decide +kernel) rfl rfl rfl ?_
      refine e_eq2 (t := 129) (show decode (mC 45) 56 = .ok (.if_icmp .eq 73, 3) by decide +kernel) (by decide) (s12 p1 p2) (by decide) (fun p3 => ?_) (fun p3 => ?_)
      · refine e_L (L' := [some (aR 124), some (aI v1), some (aI v2), some (aI v3), some (aI (v4 + 1)), none]) (st' := []) (show decode (mC 45) 129 = .ok (.iinc 4 1, 3) by decide +kernel) rfl rfl ?_
        refine e_go (t := 20) (show decode (mC 45) 132 = .ok (.goto (-112), 3) by decide +kernel) (by decide) ?_
        exact (k13 p1 p2 p3)
      · refine e_L (L' := [some (aR 124), some (aI v1), some (aI v2), some (aI v3), some (aI v4), none]) (st' := [aI v1]) (show decode (mC 45) 59 = .ok (.iload_n 1, 1) by decide +kernel) rfl rfl ?_
        refine e_L (L' := [some (aR 124), some (aI v1), some (aI v2), some (aI v3), some (aI v4), none]) (st' := [aR 124, aI v1]) (show decode (mC 45) 60 = .ok (.aload_n 0, 1) by decide +kernel) rfl (by show (if 124 = 0 then none else some (_, _)) = _; rw [if_neg (by decide)]) ?_
        refine e_getR (w := 27) (show decode (mC 45) 61 = .ok (.getfield 37, 3) by decide +kernel) (show pl 5 37 = some (0, 5, 1, 0) by decide +kernel) (by decide) (sh_ok hG (by decide +kernel)) (sh_rf hG (by decide +kernel)) ?_
        refine e_getR (w := 29) (show decode (mC 45) 64 = .ok (.getfield 80, 3) by decide +kernel) (show pl 5 80 = some (0, 4, 5, 0) by decide +kernel) (by decide) (sh_ok hG (by decide +kernel)) (sh_rf hG (by decide +kernel)) ?_
        refine e_L (L' := [some (aR 124), some (aI v1), some (aI v2), some (aI v3), some (aI v4), none]) (st' := [aI v3, aR 29, aI v1]) (show decode (mC 45) 67 = .ok (.iload_n 3, 1) by decide +kernel) rfl rfl ?_
        refine e_ialdx (n := 8) (show decode (mC 45) 68 = .ok (.iaload, 1) by decide +kernel) (sh_ok hG (by decide +kernel)) (sh_ln hG (by decide +kernel)) (by decide) (s4 p1) (s5 p1) ex4 ?_
        refine e_L (L' := [some (aR 124), some (aI v1), some (aI v2), some (aI v3), some (aI v4), none]) (st' := [aR 124, aI x4, aI v1]) (show decode (mC 45) 69 = .ok (.aload_n 0, 1) by decide +kernel) rfl (by show (if 124 = 0 then none else some (_, _)) = _; rw [if_neg (by decide)]) ?_
        refine e_getR (w := 27) (show decode (mC 45) 70 = .ok (.getfield 37, 3) by decide +kernel) (show pl 5 37 = some (0, 5, 1, 0) by decide +kernel) (by decide) (sh_ok hG (by decide +kernel)) (sh_rf hG (by decide +kernel)) ?_
        refine e_getR (w := 29) (show decode (mC 45) 73 = .ok (.getfield 80, 3) by decide +kernel) (show pl 5 80 = some (0, 4, 5, 0) by decide +kernel) (by decide) (sh_ok hG (by decide +kernel)) (sh_rf hG (by decide +kernel)) ?_
        refine e_L (L' := [some (aR 124), some (aI v1), some (aI v2), some (aI v3), some (aI v4), none]) (st' := [aI v4, aR 29, aI x4, aI v1]) (show decode (mC 45) 76 = .ok (.iload 4, 2) by decide +kernel) rfl rfl ?_
        refine e_ialdx (n := 8) (show decode (mC 45) 78 = .ok (.iaload, 1) by decide +kernel) (sh_ok hG (by decide +kernel)) (sh_ln hG (by decide +kernel)) (by decide) (s9 p1 p2) (s10 p1 p2) ex5 ?_
        refine e_min (show decode (mC 45) 79 = .ok (.invokestatic 83, 3) by decide +kernel) (show pl 5 83 = some (16, 0, 0, 0) by decide +kernel) (s16 p1 p2 p3) (s17 p1 p2 p3) (show (1 : Nat) ≤ 20 by decide) ?_
        refine e_min (show decode (mC 45) 82 = .ok (.invokestatic 83, 3) by decide +kernel) (show pl 5 83 = some (16, 0, 0, 0) by decide +kernel) (s18 p1 p2 p3) (s19 p1 p2 p3) (show (0 : Nat) ≤ 20 by decide) ?_
        refine e_L (L' := [some (aR 124), some (aI v1), some (aI v2), some (aI v3), some (aI v4), some (aI (if (if x5 < x4 then x5 else x4) < v1 then (if x5 < x4 then x5 else x4) else v1))]) (st' := []) (show decode (mC 45) 85 = .ok (.istore 5, 2) by decide +kernel) rfl rfl ?_
        refine e_L (L' := [some (aR 124), some (aI v1), some (aI v2), some (aI v3), some (aI v4), some (aI (if (if x5 < x4 then x5 else x4) < v1 then (if x5 < x4 then x5 else x4) else v1))]) (st' := [aI v2]) (show decode (mC 45) 87 = .ok (.iload_n 2, 1) by decide +kernel) rfl rfl ?_
        refine e_L (L' := [some (aR 124), some (aI v1), some (aI v2), some (aI v3), some (aI v4), some (aI (if (if x5 < x4 then x5 else x4) < v1 then (if x5 < x4 then x5 else x4) else v1))]) (st' := [aR 124, aI v2]) (show decode (mC 45) 88 = .ok (.aload_n 0, 1) by decide +kernel) rfl (by show (if 124 = 0 then none else some (_, _)) = _; rw [if_neg (by decide)]) ?_
        refine e_L (L' := [some (aR 124), some (aI v1), some (aI v2), some (aI v3), some (aI v4), some (aI (if (if x5 < x4 then x5 else x4) < v1 then (if x5 < x4 then x5 else x4) else v1))]) (st' := [aI v3, aR 124, aI v2]) (show decode (mC 45) 89 = .ok (.iload_n 3, 1) by decide +kernel) rfl rfl ?_
        refine e_L (L' := [some (aR 124), some (aI v1), some (aI v2), some (aI v3), some (aI v4), some (aI (if (if x5 < x4 then x5 else x4) < v1 then (if x5 < x4 then x5 else x4) else v1))]) (st' := [aI v4, aI v3, aR 124, aI v2]) (show decode (mC 45) 90 = .ok (.iload 4, 2) by decide +kernel) rfl rfl ?_
        refine e_L (L' := [some (aR 124), some (aI v1), some (aI v2), some (aI v3), some (aI v4), some (aI (if (if x5 < x4 then x5 else x4) < v1 then (if x5 < x4 then x5 else x4) else v1))]) (st' := [aR 124, aI v4, aI v3, aR 124, aI v2]) (show decode (mC 45) 92 = .ok (.aload_n 0, 1) by decide +kernel) rfl (by show (if 124 = 0 then none else some (_, _)) = _; rw [if_neg (by decide)]) ?_
        refine e_getR (w := 9) (show decode (mC 45) 93 = .ok (.getfield 33, 3) by decide +kernel) (show pl 5 33 = some (0, 5, 0, 0) by decide +kernel) (by decide) (sh_ok hG (by decide +kernel)) (sh_rf hG (by decide +kernel)) ?_
        refine e_getR (w := 14) (show decode (mC 45) 96 = .ok (.getfield 89, 3) by decide +kernel) (show pl 5 89 = some (0, 8, 7, 0) by decide +kernel) (by decide) (sh_ok hG (by decide +kernel)) (sh_rf hG (by decide +kernel)) ?_
        refine e_L (L' := [some (aR 124), some (aI v1), some (aI v2), some (aI v3), some (aI v4), some (aI (if (if x5 < x4 then x5 else x4) < v1 then (if x5 < x4 then x5 else x4) else v1))]) (st' := [aR 124, aR 14, aI v4, aI v3, aR 124, aI v2]) (show decode (mC 45) 99 = .ok (.aload_n 0, 1) by decide +kernel) rfl (by show (if 124 = 0 then none else some (_, _)) = _; rw [if_neg (by decide)]) ?_
        refine e_getR (w := 27) (show decode (mC 45) 100 = .ok (.getfield 37, 3) by decide +kernel) (show pl 5 37 = some (0, 5, 1, 0) by decide +kernel) (by decide) (sh_ok hG (by decide +kernel)) (sh_rf hG (by decide +kernel)) ?_
        refine e_getR (w := 28) (show decode (mC 45) 103 = .ok (.getfield 53, 3) by decide +kernel) (show pl 5 53 = some (0, 4, 4, 0) by decide +kernel) (by decide) (sh_ok hG (by decide +kernel)) (sh_rf hG (by decide +kernel)) ?_
        refine e_L (L' := [some (aR 124), some (aI v1), some (aI v2), some (aI v3), some (aI v4), some (aI (if (if x5 < x4 then x5 else x4) < v1 then (if x5 < x4 then x5 else x4) else v1))]) (st' := [aI v3, aR 28, aR 14, aI v4, aI v3, aR 124, aI v2]) (show decode (mC 45) 106 = .ok (.iload_n 3, 1) by decide +kernel) rfl rfl ?_
        refine e_ialdx (n := 8) (show decode (mC 45) 107 = .ok (.iaload, 1) by decide +kernel) (sh_ok hG (by decide +kernel)) (sh_ln hG (by decide +kernel)) (by decide) (s4 p1) (s5 p1) ex6 ?_
        refine e_L (L' := [some (aR 124), some (aI v1), some (aI v2), some (aI v3), some (aI v4), some (aI (if (if x5 < x4 then x5 else x4) < v1 then (if x5 < x4 then x5 else x4) else v1))]) (st' := [aR 124, aI x6, aR 14, aI v4, aI v3, aR 124, aI v2]) (show decode (mC 45) 108 = .ok (.aload_n 0, 1) by decide +kernel) rfl (by show (if 124 = 0 then none else some (_, _)) = _; rw [if_neg (by decide)]) ?_
        refine e_getR (w := 27) (show decode (mC 45) 109 = .ok (.getfield 37, 3) by decide +kernel) (show pl 5 37 = some (0, 5, 1, 0) by decide +kernel) (by decide) (sh_ok hG (by decide +kernel)) (sh_rf hG (by decide +kernel)) ?_
        refine e_getR (w := 28) (show decode (mC 45) 112 = .ok (.getfield 53, 3) by decide +kernel) (show pl 5 53 = some (0, 4, 4, 0) by decide +kernel) (by decide) (sh_ok hG (by decide +kernel)) (sh_rf hG (by decide +kernel)) ?_
        refine e_L (L' := [some (aR 124), some (aI v1), some (aI v2), some (aI v3), some (aI v4), some (aI (if (if x5 < x4 then x5 else x4) < v1 then (if x5 < x4 then x5 else x4) else v1))]) (st' := [aI v4, aR 28, aI x6, aR 14, aI v4, aI v3, aR 124, aI v2]) (show decode (mC 45) 115 = .ok (.iload 4, 2) by decide +kernel) rfl rfl ?_
        refine e_ialdx (n := 8) (show decode (mC 45) 117 = .ok (.iaload, 1) by decide +kernel) (sh_ok hG (by decide +kernel)) (sh_ln hG (by decide +kernel)) (by decide) (s9 p1 p2) (s10 p1 p2) ex7 ?_
        exact e_S (as := [aI x6, aI x7]) (rest := [aR 14, aI v4, aI v3, aR 124, aI v2]) (show decode (mC 45) 118 = .ok (.invokestatic 92, 3) by decide +kernel) (by decide +kernel) (show (decide ((2 : Nat) = mA 152) && decide (152 < q_law)) = true by decide +kernel) rfl (show (5 : Nat) ≤ 8 by decide) (show (2 : Nat) ≤ mL 152 by decide +kernel) (tm_le hQ (leS (leS (leN (leS (leS (leS leE)))))) (m22 p1 p2 p3))
/-- SoulOffice$MostSearch.byTheLiving(I)I, from 121 -/
theorem b45_121 (hG : Shp G) {v1 v3 v4 v5 u0 u2 u3 u5 x1 : Int} (hQ : ∀ o o' h', q_eqo o o' → Q o h' → Q o' h')
    (s0 : 0 ≤ u5)
    (s1 : u5 < 36)
    (ex1 : c 14 u5 = x1)
    (m3 : TM d 50 [aR 124, aI u2, aI u3, aI x1, aI v5] (G, c) (fun r h' => T (d + 1) 45 127 [some (aR 124), some (aI v1), none, some (aI v3), some (aI v4), none] (r.toList ++ [aI u0]) h' Q)) :
    T (d + 1) 45 121 [some (aR 124), some (aI v1), none, some (aI v3), some (aI v4), some (aI v5)] [aI u5, aR 14, aI u3, aI u2, aR 124, aI u0] (G, c) Q := by
  refine e_ialdx (n := 36) (show decode (mC 45) 121 = .ok (.iaload, 1) by decide +kernel) (sh_ok hG (by decide +kernel)) (sh_ln hG (by decide +kernel)) (by decide) s0 s1 ex1 ?_
  refine e_L (L' := [some (aR 124), some (aI v1), none, some (aI v3), some (aI v4), some (aI v5)]) (st' := [aI v5, aI x1, aI u3, aI u2, aR 124, aI u0]) (show decode (mC 45) 122 = .ok (.iload 5, 2) by decide +kernel) rfl rfl ?_
  exact e_V (as := [aR 124, aI u2, aI u3, aI x1, aI v5]) (rest := [aI u0]) (show decode (mC 45) 124 = .ok (.invokevirtual 95, 3) by decide +kernel) (by decide +kernel) (show (decide ((5 : Nat) = mA 50) && decide (50 < q_law)) = true by decide +kernel) rfl (show (1 : Nat) ≤ 8 by decide) (show (5 : Nat) ≤ mL 50 by decide +kernel) rfl (sh_ok hG (by decide +kernel)) (tm_le hQ (leS (leS (leS (leS (leS (leN leE)))))) m3)
/-- SoulOffice$MostSearch.byTheLiving(I)I, from 127 -/
theorem b45_127 (hG : Shp G) {v1 v3 v4 u0 u1 : Int}
    (k0 : T (d + 1) 45 20 [some (aR 124), some (aI v1), some (aI (u0 + u1)), some (aI v3), some (aI (v4 + 1)), none] [] (G, c) Q) :
    T (d + 1) 45 127 [some (aR 124), some (aI v1), none, some (aI v3), some (aI v4), none] [aI u1, aI u0] (G, c) Q := by
  refine e_P (st' := [aI (u0 + u1)]) (show decode (mC 45) 127 = .ok (.iadd, 1) by decide +kernel) rfl rfl rfl ?_
  refine e_L (L' := [some (aR 124), some (aI v1), some (aI (u0 + u1)), some (aI v3), some (aI v4), none]) (st' := []) (show decode (mC 45) 128 = .ok (.istore_n 2, 1) by decide +kernel) rfl rfl ?_
  refine e_L (L' := [some (aR 124), some (aI v1), some (aI (u0 + u1)), some (aI v3), some (aI (v4 + 1)), none]) (st' := []) (show decode (mC 45) 129 = .ok (.iinc 4 1, 3) by decide +kernel) rfl rfl ?_
  refine e_go (t := 20) (show decode (mC 45) 132 = .ok (.goto (-112), 3) by decide +kernel) (by decide) ?_
  exact k0
/-- SoulOffice$MostSearch.fillTables(I)V, from 0 -/
theorem b46_0 (hG : Shp G) {v1 x1 x2 : Int}
    (ex1 : c 124 3 = x1)
    (s1 : 0 ≤ x1)
    (s2 : x1 < 6)
    (ex2 : (q_up c 128 x1 0) 124 3 = x2)
    (k4 : T (d + 1) 46 17 [some (aR 124), some (aI v1), some (aI (x2 - 1)), none] [] (G, (q_up c 128 x1 0)) Q) :
    T (d + 1) 46 0 [some (aR 124), some (aI v1), none, none] [] (G, c) Q := by
  refine e_L (L' := [some (aR 124), some (aI v1), none, none]) (st' := [aR 124]) (show decode (mC 46) 0 = .ok (.aload_n 0, 1) by decide +kernel) rfl (by show (if 124 = 0 then none else some (_, _)) = _; rw [if_neg (by decide)]) ?_
  refine e_getR (w := 128) (show decode (mC 46) 1 = .ok (.getfield 21, 3) by decide +kernel) (show pl 5 21 = some (0, 5, 6, 0) by decide +kernel) (by decide) (sh_ok hG (by decide +kernel)) (sh_rf hG (by decide +kernel)) ?_
  refine e_L (L' := [some (aR 124), some (aI v1), none, none]) (st' := [aR 124, aR 128]) (show decode (mC 46) 4 = .ok (.aload_n 0, 1) by decide +kernel) rfl (by show (if 124 = 0 then none else some (_, _)) = _; rw [if_neg (by decide)]) ?_
  refine e_getIx (show decode (mC 46) 5 = .ok (.getfield 44, 3) by decide +kernel) (show pl 5 44 = some (0, 5, 3, 0) by decide +kernel) (by decide) (sh_ok hG (by decide +kernel)) ex1 ?_
  refine e_P (st' := [aI 0, aI x1, aR 128]) (show decode (mC 46) 8 = .ok (.iconst 0, 1) by decide +kernel) rfl rfl rfl ?_
  refine e_iast (n := 6) (show decode (mC 46) 9 = .ok (.iastore, 1) by decide +kernel) (sh_ok hG (by decide +kernel)) (sh_ln hG (by decide +kernel)) (by decide) s1 s2 ?_
  refine e_L (L' := [some (aR 124), some (aI v1), none, none]) (st' := [aR 124]) (show decode (mC 46) 10 = .ok (.aload_n 0, 1) by decide +kernel) rfl (by show (if 124 = 0 then none else some (_, _)) = _; rw [if_neg (by decide)]) ?_
  refine e_getIx (show decode (mC 46) 11 = .ok (.getfield 44, 3) by decide +kernel) (show pl 5 44 = some (0, 5, 3, 0) by decide +kernel) (by decide) (sh_ok hG (by decide +kernel)) ex2 ?_
  refine e_P (st' := [aI 1, aI x2]) (show decode (mC 46) 14 = .ok (.iconst 1, 1) by decide +kernel) rfl rfl rfl ?_
  refine e_P (st' := [aI (x2 - 1)]) (show decode (mC 46) 15 = .ok (.isub, 1) by decide +kernel) rfl rfl rfl ?_
  refine e_L (L' := [some (aR 124), some (aI v1), some (aI (x2 - 1)), none]) (st' := []) (show decode (mC 46) 16 = .ok (.istore_n 2, 1) by decide +kernel) rfl rfl ?_
  exact k4
/-- SoulOffice$MostSearch.fillTables(I)V, from 17 -/
theorem b46_17 (hG : Shp G) {v1 v2 x1 : Int}
    (s0 : -2147483648 ≤ v2 ∧ v2 < 2147483648)
    (z1 : (v2 < 0) → Q (.inl none) (G, c))
    (s2 : (0 ≤ v2) → 0 ≤ (v2 + 1))
    (s3 : (0 ≤ v2) → (v2 + 1) < 6)
    (ex1 : c 128 (v2 + 1) = x1)
    (m5 : (0 ≤ v2) → TM d 47 [aR 124, aI v2, aI v1] (G, c) (fun r h' => T (d + 1) 46 40 [some (aR 124), some (aI v1), some (aI v2), none] (r.toList ++ [aI x1, aI v2, aR 128]) h' Q)) :
    T (d + 1) 46 17 [some (aR 124), some (aI v1), some (aI v2), none] [] (G, c) Q := by
  refine e_L (L' := [some (aR 124), some (aI v1), some (aI v2), none]) (st' := [aI v2]) (show decode (mC 46) 17 = .ok (.iload_n 2, 1) by decide +kernel) rfl rfl ?_
  refine e_lt1 (t := 77) (show decode (mC 46) 18 = .ok (.ifCond .lt 59, 3) by decide +kernel) (by decide) s0 (fun p1 => ?_) (fun p1 => ?_)
  · exact e_vret (show decode (mC 46) 77 = .ok (.return_, 1) by decide +kernel) rfl (z1 p1)
  · refine e_L (L' := [some (aR 124), some (aI v1), some (aI v2), none]) (st' := [aR 124]) (show decode (mC 46) 21 = .ok (.aload_n 0, 1) by decide +kernel) rfl (by show (if 124 = 0 then none else some (_, _)) = _; rw [if_neg (by decide)]) ?_
    refine e_getR (w := 128) (show decode (mC 46) 22 = .ok (.getfield 21, 3) by decide +kernel) (show pl 5 21 = some (0, 5, 6, 0) by decide +kernel) (by decide) (sh_ok hG (by decide +kernel)) (sh_rf hG (by decide +kernel)) ?_
    refine e_L (L' := [some (aR 124), some (aI v1), some (aI v2), none]) (st' := [aI v2, aR 128]) (show decode (mC 46) 25 = .ok (.iload_n 2, 1) by decide +kernel) rfl rfl ?_
    refine e_L (L' := [some (aR 124), some (aI v1), some (aI v2), none]) (st' := [aR 124, aI v2, aR 128]) (show decode (mC 46) 26 = .ok (.aload_n 0, 1) by decide +kernel) rfl (by show (if 124 = 0 then none else some (_, _)) = _; rw [if_neg (by decide)]) ?_
    refine e_getR (w := 128) (show decode (mC 46) 27 = .ok (.getfield 21, 3) by decide +kernel) (show pl 5 21 = some (0, 5, 6, 0) by decide +kernel) (by decide) (sh_ok hG (by decide +kernel)) (sh_rf hG (by decide +kernel)) ?_
    refine e_L (L' := [some (aR 124), some (aI v1), some (aI v2), none]) (st' := [aI v2, aR 128, aI v2, aR 128]) (show decode (mC 46) 30 = .ok (.iload_n 2, 1) by decide +kernel) rfl rfl ?_
    refine e_P (st' := [aI 1, aI v2, aR 128, aI v2, aR 128]) (show decode (mC 46) 31 = .ok (.iconst 1, 1) by decide +kernel) rfl rfl rfl ?_
    refine e_P (st' := [aI (v2 + 1), aR 128, aI v2, aR 128]) (show decode (mC 46) 32 = .ok (.iadd, 1) by decide +kernel) rfl rfl rfl ?_
    refine e_ialdx (n := 6) (show decode (mC 46) 33 = .ok (.iaload, 1) by decide +kernel) (sh_ok hG (by decide +kernel)) (sh_ln hG (by decide +kernel)) (by decide) (s2 p1) (s3 p1) ex1 ?_
    refine e_L (L' := [some (aR 124), some (aI v1), some (aI v2), none]) (st' := [aR 124, aI x1, aI v2, aR 128]) (show decode (mC 46) 34 = .ok (.aload_n 0, 1) by decide +kernel) rfl (by show (if 124 = 0 then none else some (_, _)) = _; rw [if_neg (by decide)]) ?_
    refine e_L (L' := [some (aR 124), some (aI v1), some (aI v2), none]) (st' := [aI v2, aR 124, aI x1, aI v2, aR 128]) (show decode (mC 46) 35 = .ok (.iload_n 2, 1) by decide +kernel) rfl rfl ?_
    refine e_L (L' := [some (aR 124), some (aI v1), some (aI v2), none]) (st' := [aI v1, aI v2, aR 124, aI x1, aI v2, aR 128]) (show decode (mC 46) 36 = .ok (.iload_n 1, 1) by decide +kernel) rfl rfl ?_
    exact e_V (as := [aR 124, aI v2, aI v1]) (rest := [aI x1, aI v2, aR 128]) (show decode (mC 46) 37 = .ok (.invokevirtual 99, 3) by decide +kernel) (by decide +kernel) (show (decide ((3 : Nat) = mA 47) && decide (47 < q_law)) = true by decide +kernel) rfl (show (3 : Nat) ≤ 8 by decide) (show (3 : Nat) ≤ mL 47 by decide +kernel) rfl (sh_ok hG (by decide +kernel)) (m5 p1)
/-- SoulOffice$MostSearch.fillTables(I)V, from 40 -/
theorem b46_40 (hG : Shp G) {v1 v2 u1 u2 u3 : Int}
    (s0 : 0 ≤ u1)
    (s1 : u1 < 6)
    (k2 : T (d + 1) 46 44 [some (aR 124), some (aI v1), some (aI v2), some (aI 0)] [] (G, (q_up c 128 u1 (u2 + u3))) Q) :
    T (d + 1) 46 40 [some (aR 124), some (aI v1), some (aI v2), none] [aI u3, aI u2, aI u1, aR 128] (G, c) Q := by
  refine e_P (st' := [aI (u2 + u3), aI u1, aR 128]) (show decode (mC 46) 40 = .ok (.iadd, 1) by decide +kernel) rfl rfl rfl ?_
  refine e_iast (n := 6) (show decode (mC 46) 41 = .ok (.iastore, 1) by decide +kernel) (sh_ok hG (by decide +kernel)) (sh_ln hG (by decide +kernel)) (by decide) s0 s1 ?_
  refine e_P (st' := [aI 0]) (show decode (mC 46) 42 = .ok (.iconst 0, 1) by decide +kernel) rfl rfl rfl ?_
  refine e_L (L' := [some (aR 124), some (aI v1), some (aI v2), some (aI 0)]) (st' := []) (show decode (mC 46) 43 = .ok (.istore_n 3, 1) by decide +kernel) rfl rfl ?_
  exact k2
/-- SoulOffice$MostSearch.fillTables(I)V, from 44 -/
theorem b46_44 (hG : Shp G) {v1 v2 v3 x1 : Int} (hQ : ∀ o o' h', q_eqo o o' → Q o h' → Q o' h')
    (s0 : -2147483648 ≤ v3 ∧ v3 < 2147483648)
    (s1 : -2147483648 ≤ v2 ∧ v2 < 2147483648)
    (k2 : (v2 ≤ v3) → T (d + 1) 46 17 [some (aR 124), some (aI v1), some (aI (v2 + (-1))), none] [] (G, c) Q)
    (s3 : (v3 < v2) → 0 ≤ v2)
    (s4 : (v3 < v2) → v2 < 6)
    (ex1 : c 128 v2 = x1)
    (m6 : (v3 < v2) → TM d 48 [aR 124, aI v3, aI v2, aI v1] (G, c) (fun r h' => T (d + 1) 46 63 [some (aR 124), some (aI v1), some (aI v2), some (aI v3)] (r.toList ++ [aI x1, aI v2, aR 128]) h' Q)) :
    T (d + 1) 46 44 [some (aR 124), some (aI v1), some (aI v2), some (aI v3)] [] (G, c) Q := by
  refine e_L (L' := [some (aR 124), some (aI v1), some (aI v2), some (aI v3)]) (st' := [aI v3]) (show decode (mC 46) 44 = .ok (.iload_n 3, 1) by decide +kernel) rfl rfl ?_
  refine e_L (L' := [some (aR 124), some (aI v1), some (aI v2), some (aI v3)]) (st' := [aI v2, aI v3]) (show decode (mC 46) 45 = .ok (.iload_n 2, 1) by decide +kernel) rfl rfl ?_
  refine e_ge2 (t := 71) (show decode (mC 46) 46 = .ok (.if_icmp .ge 25, 3) by decide +kernel) (by decide) s0 s1 (fun p1 => ?_) (fun p1 => ?_)
  · refine e_L (L' := [some (aR 124), some (aI v1), some (aI (v2 + (-1))), some (aI v3)]) (st' := []) (show decode (mC 46) 71 = .ok (.iinc 2 (-1), 3) by decide +kernel) rfl rfl ?_
    refine e_go (t := 17) (show decode (mC 46) 74 = .ok (.goto (-57), 3) by decide +kernel) (by decide) ?_
    exact T_le hQ (leS (leS (leS (leN leE)))) (k2 p1)
  · refine e_L (L' := [some (aR 124), some (aI v1), some (aI v2), some (aI v3)]) (st' := [aR 124]) (show decode (mC 46) 49 = .ok (.aload_n 0, 1) by decide +kernel) rfl (by show (if 124 = 0 then none else some (_, _)) = _; rw [if_neg (by decide)]) ?_
    refine e_getR (w := 128) (show decode (mC 46) 50 = .ok (.getfield 21, 3) by decide +kernel) (show pl 5 21 = some (0, 5, 6, 0) by decide +kernel) (by decide) (sh_ok hG (by decide +kernel)) (sh_rf hG (by decide +kernel)) ?_
    refine e_L (L' := [some (aR 124), some (aI v1), some (aI v2), some (aI v3)]) (st' := [aI v2, aR 128]) (show decode (mC 46) 53 = .ok (.iload_n 2, 1) by decide +kernel) rfl rfl ?_
    refine e_P (st' := [aI v2, aR 128, aI v2, aR 128]) (show decode (mC 46) 54 = .ok (.dup2, 1) by decide +kernel) rfl rfl rfl ?_
    refine e_ialdx (n := 6) (show decode (mC 46) 55 = .ok (.iaload, 1) by decide +kernel) (sh_ok hG (by decide +kernel)) (sh_ln hG (by decide +kernel)) (by decide) (s3 p1) (s4 p1) ex1 ?_
    refine e_L (L' := [some (aR 124), some (aI v1), some (aI v2), some (aI v3)]) (st' := [aR 124, aI x1, aI v2, aR 128]) (show decode (mC 46) 56 = .ok (.aload_n 0, 1) by decide +kernel) rfl (by show (if 124 = 0 then none else some (_, _)) = _; rw [if_neg (by decide)]) ?_
    refine e_L (L' := [some (aR 124), some (aI v1), some (aI v2), some (aI v3)]) (st' := [aI v3, aR 124, aI x1, aI v2, aR 128]) (show decode (mC 46) 57 = .ok (.iload_n 3, 1) by decide +kernel) rfl rfl ?_
    refine e_L (L' := [some (aR 124), some (aI v1), some (aI v2), some (aI v3)]) (st' := [aI v2, aI v3, aR 124, aI x1, aI v2, aR 128]) (show decode (mC 46) 58 = .ok (.iload_n 2, 1) by decide +kernel) rfl rfl ?_
    refine e_L (L' := [some (aR 124), some (aI v1), some (aI v2), some (aI v3)]) (st' := [aI v1, aI v2, aI v3, aR 124, aI x1, aI v2, aR 128]) (show decode (mC 46) 59 = .ok (.iload_n 1, 1) by decide +kernel) rfl rfl ?_
    exact e_V (as := [aR 124, aI v3, aI v2, aI v1]) (rest := [aI x1, aI v2, aR 128]) (show decode (mC 46) 60 = .ok (.invokevirtual 102, 3) by decide +kernel) (by decide +kernel) (show (decide ((4 : Nat) = mA 48) && decide (48 < q_law)) = true by decide +kernel) rfl (show (3 : Nat) ≤ 8 by decide) (show (4 : Nat) ≤ mL 48 by decide +kernel) rfl (sh_ok hG (by decide +kernel)) (m6 p1)
/-- SoulOffice$MostSearch.fillTables(I)V, from 63 -/
theorem b46_63 (hG : Shp G) {v1 v2 v3 u1 u2 u3 : Int}
    (s0 : 0 ≤ u1)
    (s1 : u1 < 6)
    (k2 : T (d + 1) 46 44 [some (aR 124), some (aI v1), some (aI v2), some (aI (v3 + 1))] [] (G, (q_up c 128 u1 (u2 + u3))) Q) :
    T (d + 1) 46 63 [some (aR 124), some (aI v1), some (aI v2), some (aI v3)] [aI u3, aI u2, aI u1, aR 128] (G, c) Q := by
  refine e_P (st' := [aI (u2 + u3), aI u1, aR 128]) (show decode (mC 46) 63 = .ok (.iadd, 1) by decide +kernel) rfl rfl rfl ?_
  refine e_iast (n := 6) (show decode (mC 46) 64 = .ok (.iastore, 1) by decide +kernel) (sh_ok hG (by decide +kernel)) (sh_ln hG (by decide +kernel)) (by decide) s0 s1 ?_
  refine e_L (L' := [some (aR 124), some (aI v1), some (aI v2), some (aI (v3 + 1))]) (st' := []) (show decode (mC 46) 65 = .ok (.iinc 3 1, 3) by decide +kernel) rfl rfl ?_
  refine e_go (t := 44) (show decode (mC 46) 68 = .ok (.goto (-24), 3) by decide +kernel) (by decide) ?_
  exact k2
/-- SoulOffice$MostSearch.fillAlone(II)I, from 0 -/
theorem b47_0 (hG : Shp G) {v1 v2 x1 : Int}
    (s0 : 0 ≤ v1)
    (s1 : v1 < 5)
    (ex1 : c 125 v1 = x1)
    (k3 : T (d + 1) 47 13 [some (aR 124), some (aI v1), some (aI v2), some (aI x1), some (aI 0), some (aI 0), none, none, none, none] [] (G, c) Q) :
    T (d + 1) 47 0 [some (aR 124), some (aI v1), some (aI v2), none, none, none, none, none, none, none] [] (G, c) Q := by
  refine e_L (L' := [some (aR 124), some (aI v1), some (aI v2), none, none, none, none, none, none, none]) (st' := [aR 124]) (show decode (mC 47) 0 = .ok (.aload_n 0, 1) by decide +kernel) rfl (by show (if 124 = 0 then none else some (_, _)) = _; rw [if_neg (by decide)]) ?_
  refine e_getR (w := 125) (show decode (mC 47) 1 = .ok (.getfield 9, 3) by decide +kernel) (show pl 5 9 = some (0, 5, 2, 0) by decide +kernel) (by decide) (sh_ok hG (by decide +kernel)) (sh_rf hG (by decide +kernel)) ?_
  refine e_L (L' := [some (aR 124), some (aI v1), some (aI v2), none, none, none, none, none, none, none]) (st' := [aI v1, aR 125]) (show decode (mC 47) 4 = .ok (.iload_n 1, 1) by decide +kernel) rfl rfl ?_
  refine e_ialdx (n := 5) (show decode (mC 47) 5 = .ok (.iaload, 1) by decide +kernel) (sh_ok hG (by decide +kernel)) (sh_ln hG (by decide +kernel)) (by decide) s0 s1 ex1 ?_
  refine e_L (L' := [some (aR 124), some (aI v1), some (aI v2), some (aI x1), none, none, none, none, none, none]) (st' := []) (show decode (mC 47) 6 = .ok (.istore_n 3, 1) by decide +kernel) rfl rfl ?_
  refine e_P (st' := [aI 0]) (show decode (mC 47) 7 = .ok (.iconst 0, 1) by decide +kernel) rfl rfl rfl ?_
  refine e_L (L' := [some (aR 124), some (aI v1), some (aI v2), some (aI x1), some (aI 0), none, none, none, none, none]) (st' := []) (show decode (mC 47) 8 = .ok (.istore 4, 2) by decide +kernel) rfl rfl ?_
  refine e_P (st' := [aI 0]) (show decode (mC 47) 10 = .ok (.iconst 0, 1) by decide +kernel) rfl rfl rfl ?_
  refine e_L (L' := [some (aR 124), some (aI v1), some (aI v2), some (aI x1), some (aI 0), some (aI 0), none, none, none, none]) (st' := []) (show decode (mC 47) 11 = .ok (.istore 5, 2) by decide +kernel) rfl rfl ?_
  exact k3
/-- SoulOffice$MostSearch.fillAlone(II)I, from 13 -/
theorem b47_13 (hG : Shp G) {v1 v2 v3 v4 v5 x1 : Int}
    (ex1 : c 9 0 = x1)
    (s1 : -2147483648 ≤ v5 ∧ v5 < 2147483648)
    (s2 : -2147483648 ≤ x1 ∧ x1 < 2147483648)
    (z3 : (x1 ≤ v5) → Q (.inl (some (aI v4))) (G, c))
    (k4 : (v5 < x1) → T (d + 1) 47 31 [some (aR 124), some (aI v1), some (aI v2), some (aI v3), some (aI v4), some (aI v5), some (aI 0), some (aI 0), none, none] [] (G, c) Q) :
    T (d + 1) 47 13 [some (aR 124), some (aI v1), some (aI v2), some (aI v3), some (aI v4), some (aI v5), none, none, none, none] [] (G, c) Q := by
  refine e_L (L' := [some (aR 124), some (aI v1), some (aI v2), some (aI v3), some (aI v4), some (aI v5), none, none, none, none]) (st' := [aI v5]) (show decode (mC 47) 13 = .ok (.iload 5, 2) by decide +kernel) rfl rfl ?_
  refine e_L (L' := [some (aR 124), some (aI v1), some (aI v2), some (aI v3), some (aI v4), some (aI v5), none, none, none, none]) (st' := [aR 124, aI v5]) (show decode (mC 47) 15 = .ok (.aload_n 0, 1) by decide +kernel) rfl (by show (if 124 = 0 then none else some (_, _)) = _; rw [if_neg (by decide)]) ?_
  refine e_getR (w := 9) (show decode (mC 47) 16 = .ok (.getfield 33, 3) by decide +kernel) (show pl 5 33 = some (0, 5, 0, 0) by decide +kernel) (by decide) (sh_ok hG (by decide +kernel)) (sh_rf hG (by decide +kernel)) ?_
  refine e_getIx (show decode (mC 47) 19 = .ok (.getfield 106, 3) by decide +kernel) (show pl 5 106 = some (0, 8, 0, 0) by decide +kernel) (by decide) (sh_ok hG (by decide +kernel)) ex1 ?_
  refine e_ge2 (t := 171) (show decode (mC 47) 22 = .ok (.if_icmp .ge 149, 3) by decide +kernel) (by decide) s1 s2 (fun p1 => ?_) (fun p1 => ?_)
  · refine e_L (L' := [some (aR 124), some (aI v1), some (aI v2), some (aI v3), some (aI v4), some (aI v5), none, none, none, none]) (st' := [aI v4]) (show decode (mC 47) 171 = .ok (.iload 4, 2) by decide +kernel) rfl rfl ?_
    exact e_iret (show decode (mC 47) 173 = .ok (.ireturn, 1) by decide +kernel) rfl (z3 p1)
  · refine e_P (st' := [aI 0]) (show decode (mC 47) 25 = .ok (.iconst 0, 1) by decide +kernel) rfl rfl rfl ?_
    refine e_L (L' := [some (aR 124), some (aI v1), some (aI v2), some (aI v3), some (aI v4), some (aI v5), some (aI 0), none, none, none]) (st' := []) (show decode (mC 47) 26 = .ok (.istore 6, 2) by decide +kernel) rfl rfl ?_
    refine e_P (st' := [aI 0]) (show decode (mC 47) 28 = .ok (.iconst 0, 1) by decide +kernel) rfl rfl rfl ?_
    refine e_L (L' := [some (aR 124), some (aI v1), some (aI v2), some (aI v3), some (aI v4), some (aI v5), some (aI 0), some (aI 0), none, none]) (st' := []) (show decode (mC 47) 29 = .ok (.istore 7, 2) by decide +kernel) rfl rfl ?_
    exact (k4 p1)
/-- SoulOffice$MostSearch.fillAlone(II)I, from 31 -/
theorem b47_31 (hG : Shp G) {v1 v2 v3 v4 v5 v6 v7 x1 x2 x3 x4 x5 : Int} (hQ : ∀ o o' h', q_eqo o o' → Q o h' → Q o' h')
    (ex1 : c 9 1 = x1)
    (s1 : -2147483648 ≤ v7 ∧ v7 < 2147483648)
    (s2 : -2147483648 ≤ x1 ∧ x1 < 2147483648)
    (s3 : (x1 ≤ v7) → 0 ≤ ((v1 * 6) + v5))
    (s4 : (x1 ≤ v7) → ((v1 * 6) + v5) < 30)
    (s5 : (x1 ≤ v7) → -2147483648 ≤ v4 ∧ v4 < 2147483648)
    (s6 : (x1 ≤ v7) → -2147483648 ≤ v6 ∧ v6 < 2147483648)
    (k7 : (x1 ≤ v7) → T (d + 1) 47 13 [some (aR 124), some (aI v1), some (aI v2), some (aI v3), some (aI (if v4 < v6 then v6 else v4)), some (aI (v5 + 1)), none, none, none, none] [] (G, (q_up c 126 ((v1 * 6) + v5) v6)) Q)
    (s8 : (v7 < x1) → 0 ≤ v7)
    (s9 : (v7 < x1) → v7 < 8)
    (ex2 : c 28 v7 = x2)
    (s11 : (v7 < x1) → -2147483648 ≤ x2 ∧ x2 < 2147483648)
    (k12 : (v7 < x1) → (x2 = (-1)) → T (d + 1) 47 31 [some (aR 124), some (aI v1), some (aI v2), some (aI v3), some (aI v4), some (aI v5), some (aI v6), some (aI (v7 + 1)), none, none] [] (G, c) Q)
    (s13 : (v7 < x1) → (¬ x2 = (-1)) → 0 ≤ v5)
    (s14 : (v7 < x1) → (¬ x2 = (-1)) → v5 < 6)
    (ex3 : c 12 v5 = x3)
    (ex4 : c 29 v7 = x4)
    (s17 : (v7 < x1) → (¬ x2 = (-1)) → -2147483648 ≤ x3 ∧ x3 < 2147483648)
    (s18 : (v7 < x1) → (¬ x2 = (-1)) → -2147483648 ≤ x4 ∧ x4 < 2147483648)
    (s19 : (v7 < x1) → (¬ x2 = (-1)) → -2147483648 ≤ v2 ∧ v2 < 2147483648)
    (s20 : (v7 < x1) → (¬ x2 = (-1)) → -2147483648 ≤ (if x4 < x3 then x4 else x3) ∧ (if x4 < x3 then x4 else x3) < 2147483648)
    (ex5 : c 28 v7 = x5)
    (m22 : (v7 < x1) → (¬ x2 = (-1)) → TM d 152 [aI v5, aI x5] (G, c) (fun r h' => T (d + 1) 47 108 [some (aR 124), some (aI v1), some (aI v2), some (aI v3), some (aI v4), some (aI v5), some (aI v6), some (aI v7), some (aI (if (if x4 < x3 then x4 else x3) < v2 then (if x4 < x3 then x4 else x3) else v2)), none] (r.toList ++ [aR 14]) h' Q)) :
    T (d + 1) 47 31 [some (aR 124), some (aI v1), some (aI v2), some (aI v3), some (aI v4), some (aI v5), some (aI v6), some (aI v7), none, none] [] (G, c) Q := by
  refine e_L (L' := [some (aR 124), some (aI v1), some (aI v2), some (aI v3), some (aI v4), some (aI v5), some (aI v6), some (aI v7), none, none]) (st' := [aI v7]) (show decode (mC 47) 31 = .ok (.iload 7, 2) by decide +kernel) rfl rfl ?_
  refine e_L (L' := [some (aR 124), some (aI v1), some (aI v2), some (aI v3), some (aI v4), some (aI v5), some (aI v6), some (aI v7), none, none]) (st' := [aR 124, aI v7]) (show decode (mC 47) 33 = .ok (.aload_n 0, 1) by decide +kernel) rfl (by show (if 124 = 0 then none else some (_, _)) = _; rw [if_neg (by decide)]) ?_
  refine e_getR (w := 9) (show decode (mC 47) 34 = .ok (.getfield 33, 3) by decide +kernel) (show pl 5 33 = some (0, 5, 0, 0) by decide +kernel) (by decide) (sh_ok hG (by decide +kernel)) (sh_rf hG (by decide +kernel)) ?_
  refine e_getIx (show decode (mC 47) 37 = .ok (.getfield 48, 3) by decide +kernel) (show pl 5 48 = some (0, 8, 1, 0) by decide +kernel) (by decide) (sh_ok hG (by decide +kernel)) ex1 ?_
  refine e_ge2 (t := 142) (show decode (mC 47) 40 = .ok (.if_icmp .ge 102, 3) by decide +kernel) (by decide) s1 s2 (fun p1 => ?_) (fun p1 => ?_)
  · refine e_L (L' := [some (aR 124), some (aI v1), some (aI v2), some (aI v3), some (aI v4), some (aI v5), some (aI v6), some (aI v7), none, none]) (st' := [aR 124]) (show decode (mC 47) 142 = .ok (.aload_n 0, 1) by decide +kernel) rfl (by show (if 124 = 0 then none else some (_, _)) = _; rw [if_neg (by decide)]) ?_
    refine e_getR (w := 126) (show decode (mC 47) 143 = .ok (.getfield 15, 3) by decide +kernel) (show pl 5 15 = some (0, 5, 4, 0) by decide +kernel) (by decide) (sh_ok hG (by decide +kernel)) (sh_rf hG (by decide +kernel)) ?_
    refine e_L (L' := [some (aR 124), some (aI v1), some (aI v2), some (aI v3), some (aI v4), some (aI v5), some (aI v6), some (aI v7), none, none]) (st' := [aI v1, aR 126]) (show decode (mC 47) 146 = .ok (.iload_n 1, 1) by decide +kernel) rfl rfl ?_
    refine e_P (st' := [aI 6, aI v1, aR 126]) (show decode (mC 47) 147 = .ok (.bipush 6, 2) by decide +kernel) rfl rfl rfl ?_
    refine e_P (st' := [aI (v1 * 6), aR 126]) (show decode (mC 47) 149 = .ok (.imul, 1) by decide +kernel) rfl rfl rfl ?_
    refine e_L (L' := [some (aR 124), some (aI v1), some (aI v2), some (aI v3), some (aI v4), some (aI v5), some (aI v6), some (aI v7), none, none]) (st' := [aI v5, aI (v1 * 6), aR 126]) (show decode (mC 47) 150 = .ok (.iload 5, 2) by decide +kernel) rfl rfl ?_
    refine e_P (st' := [aI ((v1 * 6) + v5), aR 126]) (show decode (mC 47) 152 = .ok (.iadd, 1) by decide +kernel) rfl rfl rfl ?_
    refine e_L (L' := [some (aR 124), some (aI v1), some (aI v2), some (aI v3), some (aI v4), some (aI v5), some (aI v6), some (aI v7), none, none]) (st' := [aI v6, aI ((v1 * 6) + v5), aR 126]) (show decode (mC 47) 153 = .ok (.iload 6, 2) by decide +kernel) rfl rfl ?_
    refine e_iast (n := 30) (show decode (mC 47) 155 = .ok (.iastore, 1) by decide +kernel) (sh_ok hG (by decide +kernel)) (sh_ln hG (by decide +kernel)) (by decide) (s3 p1) (s4 p1) ?_
    refine e_L (L' := [some (aR 124), some (aI v1), some (aI v2), some (aI v3), some (aI v4), some (aI v5), some (aI v6), some (aI v7), none, none]) (st' := [aI v4]) (show decode (mC 47) 156 = .ok (.iload 4, 2) by decide +kernel) rfl rfl ?_
    refine e_L (L' := [some (aR 124), some (aI v1), some (aI v2), some (aI v3), some (aI v4), some (aI v5), some (aI v6), some (aI v7), none, none]) (st' := [aI v6, aI v4]) (show decode (mC 47) 158 = .ok (.iload 6, 2) by decide +kernel) rfl rfl ?_
    refine e_max (show decode (mC 47) 160 = .ok (.invokestatic 112, 3) by decide +kernel) (show pl 5 112 = some (15, 0, 0, 0) by decide +kernel) (s5 p1) (s6 p1) (show (0 : Nat) ≤ 20 by decide) ?_
    refine e_L (L' := [some (aR 124), some (aI v1), some (aI v2), some (aI v3), some (aI (if v4 < v6 then v6 else v4)), some (aI v5), some (aI v6), some (aI v7), none, none]) (st' := []) (show decode (mC 47) 163 = .ok (.istore 4, 2) by decide +kernel) rfl rfl ?_
    refine e_L (L' := [some (aR 124), some (aI v1), some (aI v2), some (aI v3), some (aI (if v4 < v6 then v6 else v4)), some (aI (v5 + 1)), some (aI v6), some (aI v7), none, none]) (st' := []) (show decode (mC 47) 165 = .ok (.iinc 5 1, 3) by decide +kernel) rfl rfl ?_
    refine e_go (t := 13) (show decode (mC 47) 168 = .ok (.goto (-155), 3) by decide +kernel) (by decide) ?_
    exact T_le hQ (leS (leS (leS (leS (leS (leS (leN (leN (leS (leS leE)))))))))) (k7 p1)
  · refine e_L (L' := [some (aR 124), some (aI v1), some (aI v2), some (aI v3), some (aI v4), some (aI v5), some (aI v6), some (aI v7), none, none]) (st' := [aR 124]) (show decode (mC 47) 43 = .ok (.aload_n 0, 1) by decide +kernel) rfl (by show (if 124 = 0 then none else some (_, _)) = _; rw [if_neg (by decide)]) ?_
    refine e_getR (w := 27) (show decode (mC 47) 44 = .ok (.getfield 37, 3) by decide +kernel) (show pl 5 37 = some (0, 5, 1, 0) by decide +kernel) (by decide) (sh_ok hG (by decide +kernel)) (sh_rf hG (by decide +kernel)) ?_
    refine e_getR (w := 28) (show decode (mC 47) 47 = .ok (.getfield 53, 3) by decide +kernel) (show pl 5 53 = some (0, 4, 4, 0) by decide +kernel) (by decide) (sh_ok hG (by decide +kernel)) (sh_rf hG (by decide +kernel)) ?_
    refine e_L (L' := [some (aR 124), some (aI v1), some (aI v2), some (aI v3), some (aI v4), some (aI v5), some (aI v6), some (aI v7), none, none]) (st' := [aI v7, aR 28]) (show decode (mC 47) 50 = .ok (.iload 7, 2) by decide +kernel) rfl rfl ?_
    refine e_ialdx (n := 8) (show decode (mC 47) 52 = .ok (.iaload, 1) by decide +kernel) (sh_ok hG (by decide +kernel)) (sh_ln hG (by decide +kernel)) (by decide) (s8 p1) (s9 p1) ex2 ?_
    refine e_P (st' := [aI (-1), aI x2]) (show decode (mC 47) 53 = .ok (.iconst (-1), 1) by decide +kernel) rfl rfl rfl ?_
    refine e_eq2 (t := 136) (show decode (mC 47) 54 = .ok (.if_icmp .eq 82, 3) by decide +kernel) (by decide) (s11 p1) (by decide) (fun p2 => ?_) (fun p2 => ?_)
    · refine e_L (L' := [some (aR 124), some (aI v1), some (aI v2), some (aI v3), some (aI v4), some (aI v5), some (aI v6), some (aI (v7 + 1)), none, none]) (st' := []) (show decode (mC 47) 136 = .ok (.iinc 7 1, 3) by decide +kernel) rfl rfl ?_
      refine e_go (t := 31) (show decode (mC 47) 139 = .ok (.goto (-108), 3) by decide +kernel) (by decide) ?_
      exact (k12 p1 p2)
    · refine e_L (L' := [some (aR 124), some (aI v1), some (aI v2), some (aI v3), some (aI v4), some (aI v5), some (aI v6), some (aI v7), none, none]) (st' := [aI v2]) (show decode (mC 47) 57 = .ok (.iload_n 2, 1) by decide +kernel) rfl rfl ?_
      refine e_L (L' := [some (aR 124), some (aI v1), some (aI v2), some (aI v3), some (aI v4), some (aI v5), some (aI v6), some (aI v7), none, none]) (st' := [aR 124, aI v2]) (show decode (mC 47) 58 = .ok (.aload_n 0, 1) by decide +kernel) rfl (by show (if 124 = 0 then none else some (_, _)) = _; rw [if_neg (by decide)]) ?_
      refine e_getR (w := 9) (show decode (mC 47) 59 = .ok (.getfield 33, 3) by decide +kernel) (show pl 5 33 = some (0, 5, 0, 0) by decide +kernel) (by decide) (sh_ok hG (by decide +kernel)) (sh_rf hG (by decide +kernel)) ?_
      refine e_getR (w := 12) (show decode (mC 47) 62 = .ok (.getfield 109, 3) by decide +kernel) (show pl 5 109 = some (0, 8, 5, 0) by decide +kernel) (by decide) (sh_ok hG (by decide +kernel)) (sh_rf hG (by decide +kernel)) ?_
      refine e_L (L' := [some (aR 124), some (aI v1), some (aI v2), some (aI v3), some (aI v4), some (aI v5), some (aI v6), some (aI v7), none, none]) (st' := [aI v5, aR 12, aI v2]) (show decode (mC 47) 65 = .ok (.iload 5, 2) by decide +kernel) rfl rfl ?_
      refine e_ialdx (n := 6) (show decode (mC 47) 67 = .ok (.iaload, 1) by decide +kernel) (sh_ok hG (by decide +kernel)) (sh_ln hG (by decide +kernel)) (by decide) (s13 p1 p2) (s14 p1 p2) ex3 ?_
      refine e_L (L' := [some (aR 124), some (aI v1), some (aI v2), some (aI v3), some (aI v4), some (aI v5), some (aI v6), some (aI v7), none, none]) (st' := [aR 124, aI x3, aI v2]) (show decode (mC 47) 68 = .ok (.aload_n 0, 1) by decide +kernel) rfl (by show (if 124 = 0 then none else some (_, _)) = _; rw [if_neg (by decide)]) ?_
      refine e_getR (w := 27) (show decode (mC 47) 69 = .ok (.getfield 37, 3) by decide +kernel) (show pl 5 37 = some (0, 5, 1, 0) by decide +kernel) (by decide) (sh_ok hG (by decide +kernel)) (sh_rf hG (by decide +kernel)) ?_
      refine e_getR (w := 29) (show decode (mC 47) 72 = .ok (.getfield 80, 3) by decide +kernel) (show pl 5 80 = some (0, 4, 5, 0) by decide +kernel) (by decide) (sh_ok hG (by decide +kernel)) (sh_rf hG (by decide +kernel)) ?_
      refine e_L (L' := [some (aR 124), some (aI v1), some (aI v2), some (aI v3), some (aI v4), some (aI v5), some (aI v6), some (aI v7), none, none]) (st' := [aI v7, aR 29, aI x3, aI v2]) (show decode (mC 47) 75 = .ok (.iload 7, 2) by decide +kernel) rfl rfl ?_
      refine e_ialdx (n := 8) (show decode (mC 47) 77 = .ok (.iaload, 1) by decide +kernel) (sh_ok hG (by decide +kernel)) (sh_ln hG (by decide +kernel)) (by decide) (s8 p1) (s9 p1) ex4 ?_
      refine e_min (show decode (mC 47) 78 = .ok (.invokestatic 83, 3) by decide +kernel) (show pl 5 83 = some (16, 0, 0, 0) by decide +kernel) (s17 p1 p2) (s18 p1 p2) (show (1 : Nat) ≤ 20 by decide) ?_
      refine e_min (show decode (mC 47) 81 = .ok (.invokestatic 83, 3) by decide +kernel) (show pl 5 83 = some (16, 0, 0, 0) by decide +kernel) (s19 p1 p2) (s20 p1 p2) (show (0 : Nat) ≤ 20 by decide) ?_
      refine e_L (L' := [some (aR 124), some (aI v1), some (aI v2), some (aI v3), some (aI v4), some (aI v5), some (aI v6), some (aI v7), some (aI (if (if x4 < x3 then x4 else x3) < v2 then (if x4 < x3 then x4 else x3) else v2)), none]) (st' := []) (show decode (mC 47) 84 = .ok (.istore 8, 2) by decide +kernel) rfl rfl ?_
      refine e_L (L' := [some (aR 124), some (aI v1), some (aI v2), some (aI v3), some (aI v4), some (aI v5), some (aI v6), some (aI v7), some (aI (if (if x4 < x3 then x4 else x3) < v2 then (if x4 < x3 then x4 else x3) else v2)), none]) (st' := [aR 124]) (show decode (mC 47) 86 = .ok (.aload_n 0, 1) by decide +kernel) rfl (by show (if 124 = 0 then none else some (_, _)) = _; rw [if_neg (by decide)]) ?_
      refine e_getR (w := 9) (show decode (mC 47) 87 = .ok (.getfield 33, 3) by decide +kernel) (show pl 5 33 = some (0, 5, 0, 0) by decide +kernel) (by decide) (sh_ok hG (by decide +kernel)) (sh_rf hG (by decide +kernel)) ?_
      refine e_getR (w := 14) (show decode (mC 47) 90 = .ok (.getfield 89, 3) by decide +kernel) (show pl 5 89 = some (0, 8, 7, 0) by decide +kernel) (by decide) (sh_ok hG (by decide +kernel)) (sh_rf hG (by decide +kernel)) ?_
      refine e_L (L' := [some (aR 124), some (aI v1), some (aI v2), some (aI v3), some (aI v4), some (aI v5), some (aI v6), some (aI v7), some (aI (if (if x4 < x3 then x4 else x3) < v2 then (if x4 < x3 then x4 else x3) else v2)), none]) (st' := [aI v5, aR 14]) (show decode (mC 47) 93 = .ok (.iload 5, 2) by decide +kernel) rfl rfl ?_
      refine e_L (L' := [some (aR 124), some (aI v1), some (aI v2), some (aI v3), some (aI v4), some (aI v5), some (aI v6), some (aI v7), some (aI (if (if x4 < x3 then x4 else x3) < v2 then (if x4 < x3 then x4 else x3) else v2)), none]) (st' := [aR 124, aI v5, aR 14]) (show decode (mC 47) 95 = .ok (.aload_n 0, 1) by decide +kernel) rfl (by show (if 124 = 0 then none else some (_, _)) = _; rw [if_neg (by decide)]) ?_
      refine e_getR (w := 27) (show decode (mC 47) 96 = .ok (.getfield 37, 3) by decide +kernel) (show pl 5 37 = some (0, 5, 1, 0) by decide +kernel) (by decide) (sh_ok hG (by decide +kernel)) (sh_rf hG (by decide +kernel)) ?_
      refine e_getR (w := 28) (show decode (mC 47) 99 = .ok (.getfield 53, 3) by decide +kernel) (show pl 5 53 = some (0, 4, 4, 0) by decide +kernel) (by decide) (sh_ok hG (by decide +kernel)) (sh_rf hG (by decide +kernel)) ?_
      refine e_L (L' := [some (aR 124), some (aI v1), some (aI v2), some (aI v3), some (aI v4), some (aI v5), some (aI v6), some (aI v7), some (aI (if (if x4 < x3 then x4 else x3) < v2 then (if x4 < x3 then x4 else x3) else v2)), none]) (st' := [aI v7, aR 28, aI v5, aR 14]) (show decode (mC 47) 102 = .ok (.iload 7, 2) by decide +kernel) rfl rfl ?_
      refine e_ialdx (n := 8) (show decode (mC 47) 104 = .ok (.iaload, 1) by decide +kernel) (sh_ok hG (by decide +kernel)) (sh_ln hG (by decide +kernel)) (by decide) (s8 p1) (s9 p1) ex5 ?_
      exact e_S (as := [aI v5, aI x5]) (rest := [aR 14]) (show decode (mC 47) 105 = .ok (.invokestatic 92, 3) by decide +kernel) (by decide +kernel) (show (decide ((2 : Nat) = mA 152) && decide (152 < q_law)) = true by decide +kernel) rfl (show (1 : Nat) ≤ 8 by decide) (show (2 : Nat) ≤ mL 152 by decide +kernel) (m22 p1 p2)
/-- SoulOffice$MostSearch.fillAlone(II)I, from 108 -/
theorem b47_108 (hG : Shp G) {v1 v2 v3 v4 v5 v6 v7 v8 u1 x1 : Int} (hQ : ∀ o o' h', q_eqo o o' → Q o h' → Q o' h')
    (s0 : 0 ≤ u1)
    (s1 : u1 < 36)
    (ex1 : c 14 u1 = x1)
    (s3 : -2147483648 ≤ v3 ∧ v3 < 2147483648)
    (s4 : -2147483648 ≤ v7 ∧ v7 < 2147483648)
    (m5 : TM d 50 [aR 124, aI (if v7 < v3 then v7 else v3), aI (if v3 < v7 then v7 else v3), aI x1, aI v8] (G, c) (fun r h' => T (d + 1) 47 133 [some (aR 124), some (aI v1), some (aI v2), some (aI v3), some (aI v4), some (aI v5), none, some (aI v7), none, none] (r.toList ++ [aI v6]) h' Q)) :
    T (d + 1) 47 108 [some (aR 124), some (aI v1), some (aI v2), some (aI v3), some (aI v4), some (aI v5), some (aI v6), some (aI v7), some (aI v8), none] [aI u1, aR 14] (G, c) Q := by
  refine e_ialdx (n := 36) (show decode (mC 47) 108 = .ok (.iaload, 1) by decide +kernel) (sh_ok hG (by decide +kernel)) (sh_ln hG (by decide +kernel)) (by decide) s0 s1 ex1 ?_
  refine e_L (L' := [some (aR 124), some (aI v1), some (aI v2), some (aI v3), some (aI v4), some (aI v5), some (aI v6), some (aI v7), some (aI v8), some (aI x1)]) (st' := []) (show decode (mC 47) 109 = .ok (.istore 9, 2) by decide +kernel) rfl rfl ?_
  refine e_L (L' := [some (aR 124), some (aI v1), some (aI v2), some (aI v3), some (aI v4), some (aI v5), some (aI v6), some (aI v7), some (aI v8), some (aI x1)]) (st' := [aI v6]) (show decode (mC 47) 111 = .ok (.iload 6, 2) by decide +kernel) rfl rfl ?_
  refine e_L (L' := [some (aR 124), some (aI v1), some (aI v2), some (aI v3), some (aI v4), some (aI v5), some (aI v6), some (aI v7), some (aI v8), some (aI x1)]) (st' := [aR 124, aI v6]) (show decode (mC 47) 113 = .ok (.aload_n 0, 1) by decide +kernel) rfl (by show (if 124 = 0 then none else some (_, _)) = _; rw [if_neg (by decide)]) ?_
  refine e_L (L' := [some (aR 124), some (aI v1), some (aI v2), some (aI v3), some (aI v4), some (aI v5), some (aI v6), some (aI v7), some (aI v8), some (aI x1)]) (st' := [aI v3, aR 124, aI v6]) (show decode (mC 47) 114 = .ok (.iload_n 3, 1) by decide +kernel) rfl rfl ?_
  refine e_L (L' := [some (aR 124), some (aI v1), some (aI v2), some (aI v3), some (aI v4), some (aI v5), some (aI v6), some (aI v7), some (aI v8), some (aI x1)]) (st' := [aI v7, aI v3, aR 124, aI v6]) (show decode (mC 47) 115 = .ok (.iload 7, 2) by decide +kernel) rfl rfl ?_
  refine e_min (show decode (mC 47) 117 = .ok (.invokestatic 83, 3) by decide +kernel) (show pl 5 83 = some (16, 0, 0, 0) by decide +kernel) s3 s4 (show (2 : Nat) ≤ 20 by decide) ?_
  refine e_L (L' := [some (aR 124), some (aI v1), some (aI v2), some (aI v3), some (aI v4), some (aI v5), some (aI v6), some (aI v7), some (aI v8), some (aI x1)]) (st' := [aI v3, aI (if v7 < v3 then v7 else v3), aR 124, aI v6]) (show decode (mC 47) 120 = .ok (.iload_n 3, 1) by decide +kernel) rfl rfl ?_
  refine e_L (L' := [some (aR 124), some (aI v1), some (aI v2), some (aI v3), some (aI v4), some (aI v5), some (aI v6), some (aI v7), some (aI v8), some (aI x1)]) (st' := [aI v7, aI v3, aI (if v7 < v3 then v7 else v3), aR 124, aI v6]) (show decode (mC 47) 121 = .ok (.iload 7, 2) by decide +kernel) rfl rfl ?_
  refine e_max (show decode (mC 47) 123 = .ok (.invokestatic 112, 3) by decide +kernel) (show pl 5 112 = some (15, 0, 0, 0) by decide +kernel) s3 s4 (show (3 : Nat) ≤ 20 by decide) ?_
  refine e_L (L' := [some (aR 124), some (aI v1), some (aI v2), some (aI v3), some (aI v4), some (aI v5), some (aI v6), some (aI v7), some (aI v8), some (aI x1)]) (st' := [aI x1, aI (if v3 < v7 then v7 else v3), aI (if v7 < v3 then v7 else v3), aR 124, aI v6]) (show decode (mC 47) 126 = .ok (.iload 9, 2) by decide +kernel) rfl rfl ?_
  refine e_L (L' := [some (aR 124), some (aI v1), some (aI v2), some (aI v3), some (aI v4), some (aI v5), some (aI v6), some (aI v7), some (aI v8), some (aI x1)]) (st' := [aI v8, aI x1, aI (if v3 < v7 then v7 else v3), aI (if v7 < v3 then v7 else v3), aR 124, aI v6]) (show decode (mC 47) 128 = .ok (.iload 8, 2) by decide +kernel) rfl rfl ?_
  exact e_V (as := [aR 124, aI (if v7 < v3 then v7 else v3), aI (if v3 < v7 then v7 else v3), aI x1, aI v8]) (rest := [aI v6]) (show decode (mC 47) 130 = .ok (.invokevirtual 95, 3) by decide +kernel) (by decide +kernel) (show (decide ((5 : Nat) = mA 50) && decide (50 < q_law)) = true by decide +kernel) rfl (show (1 : Nat) ≤ 8 by decide) (show (5 : Nat) ≤ mL 50 by decide +kernel) rfl (sh_ok hG (by decide +kernel)) (tm_le hQ (leS (leS (leS (leS (leS (leS (leN (leS (leN (leN leE)))))))))) m5)
/-- SoulOffice$MostSearch.fillAlone(II)I, from 133 -/
theorem b47_133 (hG : Shp G) {v1 v2 v3 v4 v5 v7 u0 u1 : Int}
    (k0 : T (d + 1) 47 31 [some (aR 124), some (aI v1), some (aI v2), some (aI v3), some (aI v4), some (aI v5), some (aI (u0 + u1)), some (aI (v7 + 1)), none, none] [] (G, c) Q) :
    T (d + 1) 47 133 [some (aR 124), some (aI v1), some (aI v2), some (aI v3), some (aI v4), some (aI v5), none, some (aI v7), none, none] [aI u1, aI u0] (G, c) Q := by
  refine e_P (st' := [aI (u0 + u1)]) (show decode (mC 47) 133 = .ok (.iadd, 1) by decide +kernel) rfl rfl rfl ?_
  refine e_L (L' := [some (aR 124), some (aI v1), some (aI v2), some (aI v3), some (aI v4), some (aI v5), some (aI (u0 + u1)), some (aI v7), none, none]) (st' := []) (show decode (mC 47) 134 = .ok (.istore 6, 2) by decide +kernel) rfl rfl ?_
  refine e_L (L' := [some (aR 124), some (aI v1), some (aI v2), some (aI v3), some (aI v4), some (aI v5), some (aI (u0 + u1)), some (aI (v7 + 1)), none, none]) (st' := []) (show decode (mC 47) 136 = .ok (.iinc 7 1, 3) by decide +kernel) rfl rfl ?_
  refine e_go (t := 31) (show decode (mC 47) 139 = .ok (.goto (-108), 3) by decide +kernel) (by decide) ?_
  exact k0
/-- SoulOffice$MostSearch.fillTogether(III)I, from 0 -/
theorem b48_0 (hG : Shp G) {v1 v2 v3 : Int}
    (k0 : T (d + 1) 48 6 [some (aR 124), some (aI v1), some (aI v2), some (aI v3), some (aI 0), some (aI 0), none, none, none] [] (G, c) Q) :
    T (d + 1) 48 0 [some (aR 124), some (aI v1), some (aI v2), some (aI v3), none, none, none, none, none] [] (G, c) Q := by
  refine e_P (st' := [aI 0]) (show decode (mC 48) 0 = .ok (.iconst 0, 1) by decide +kernel) rfl rfl rfl ?_
  refine e_L (L' := [some (aR 124), some (aI v1), some (aI v2), some (aI v3), some (aI 0), none, none, none, none]) (st' := []) (show decode (mC 48) 1 = .ok (.istore 4, 2) by decide +kernel) rfl rfl ?_
  refine e_P (st' := [aI 0]) (show decode (mC 48) 3 = .ok (.iconst 0, 1) by decide +kernel) rfl rfl rfl ?_
  refine e_L (L' := [some (aR 124), some (aI v1), some (aI v2), some (aI v3), some (aI 0), some (aI 0), none, none, none]) (st' := []) (show decode (mC 48) 4 = .ok (.istore 5, 2) by decide +kernel) rfl rfl ?_
  exact k0
/-- SoulOffice$MostSearch.fillTogether(III)I, from 6 -/
theorem b48_6 (hG : Shp G) {v1 v2 v3 v4 v5 x1 : Int}
    (ex1 : c 9 0 = x1)
    (s1 : -2147483648 ≤ v5 ∧ v5 < 2147483648)
    (s2 : -2147483648 ≤ x1 ∧ x1 < 2147483648)
    (z3 : (x1 ≤ v5) → Q (.inl (some (aI v4))) (G, c))
    (k4 : (v5 < x1) → T (d + 1) 48 21 [some (aR 124), some (aI v1), some (aI v2), some (aI v3), some (aI v4), some (aI v5), some (aI 0), none, none] [] (G, c) Q) :
    T (d + 1) 48 6 [some (aR 124), some (aI v1), some (aI v2), some (aI v3), some (aI v4), some (aI v5), none, none, none] [] (G, c) Q := by
  refine e_L (L' := [some (aR 124), some (aI v1), some (aI v2), some (aI v3), some (aI v4), some (aI v5), none, none, none]) (st' := [aI v5]) (show decode (mC 48) 6 = .ok (.iload 5, 2) by decide +kernel) rfl rfl ?_
  refine e_L (L' := [some (aR 124), some (aI v1), some (aI v2), some (aI v3), some (aI v4), some (aI v5), none, none, none]) (st' := [aR 124, aI v5]) (show decode (mC 48) 8 = .ok (.aload_n 0, 1) by decide +kernel) rfl (by show (if 124 = 0 then none else some (_, _)) = _; rw [if_neg (by decide)]) ?_
  refine e_getR (w := 9) (show decode (mC 48) 9 = .ok (.getfield 33, 3) by decide +kernel) (show pl 5 33 = some (0, 5, 0, 0) by decide +kernel) (by decide) (sh_ok hG (by decide +kernel)) (sh_rf hG (by decide +kernel)) ?_
  refine e_getIx (show decode (mC 48) 12 = .ok (.getfield 106, 3) by decide +kernel) (show pl 5 106 = some (0, 8, 0, 0) by decide +kernel) (by decide) (sh_ok hG (by decide +kernel)) ex1 ?_
  refine e_ge2 (t := 134) (show decode (mC 48) 15 = .ok (.if_icmp .ge 119, 3) by decide +kernel) (by decide) s1 s2 (fun p1 => ?_) (fun p1 => ?_)
  · refine e_L (L' := [some (aR 124), some (aI v1), some (aI v2), some (aI v3), some (aI v4), some (aI v5), none, none, none]) (st' := [aI v4]) (show decode (mC 48) 134 = .ok (.iload 4, 2) by decide +kernel) rfl rfl ?_
    exact e_iret (show decode (mC 48) 136 = .ok (.ireturn, 1) by decide +kernel) rfl (z3 p1)
  · refine e_P (st' := [aI 0]) (show decode (mC 48) 18 = .ok (.iconst 0, 1) by decide +kernel) rfl rfl rfl ?_
    refine e_L (L' := [some (aR 124), some (aI v1), some (aI v2), some (aI v3), some (aI v4), some (aI v5), some (aI 0), none, none]) (st' := []) (show decode (mC 48) 19 = .ok (.istore 6, 2) by decide +kernel) rfl rfl ?_
    exact (k4 p1)
/-- SoulOffice$MostSearch.fillTogether(III)I, from 21 -/
theorem b48_21 (hG : Shp G) {v1 v2 v3 v4 v5 v6 x1 x2 x3 x4 x5 : Int} (hQ : ∀ o o' h', q_eqo o o' → Q o h' → Q o' h')
    (ex1 : c 9 0 = x1)
    (s1 : -2147483648 ≤ v6 ∧ v6 < 2147483648)
    (s2 : -2147483648 ≤ x1 ∧ x1 < 2147483648)
    (k3 : (x1 ≤ v6) → T (d + 1) 48 6 [some (aR 124), some (aI v1), some (aI v2), some (aI v3), some (aI v4), some (aI (v5 + 1)), none, none, none] [] (G, c) Q)
    (s4 : (v6 < x1) → 0 ≤ v5)
    (s5 : (v6 < x1) → v5 < 6)
    (ex2 : c 12 v5 = x2)
    (s7 : (v6 < x1) → 0 ≤ v6)
    (s8 : (v6 < x1) → v6 < 6)
    (ex3 : c 12 v6 = x3)
    (s10 : (v6 < x1) → -2147483648 ≤ x2 ∧ x2 < 2147483648)
    (s11 : (v6 < x1) → -2147483648 ≤ x3 ∧ x3 < 2147483648)
    (s12 : (v6 < x1) → -2147483648 ≤ v3 ∧ v3 < 2147483648)
    (s13 : (v6 < x1) → -2147483648 ≤ (if x3 < x2 then x3 else x2) ∧ (if x3 < x2 then x3 else x2) < 2147483648)
    (s14 : (v6 < x1) → 0 ≤ v1)
    (s15 : (v6 < x1) → v1 < 5)
    (ex4 : c 125 v1 = x4)
    (s17 : (v6 < x1) → 0 ≤ v2)
    (s18 : (v6 < x1) → v2 < 5)
    (ex5 : c 125 v2 = x5)
    (m20 : (v6 < x1) → TM d 152 [aI v5, aI v6] (G, c) (fun r h' => T (d + 1) 48 89 [some (aR 124), some (aI v1), some (aI v2), some (aI v3), some (aI v4), some (aI v5), some (aI v6), some (aI (if (if x3 < x2 then x3 else x2) < v3 then (if x3 < x2 then x3 else x2) else v3)), none] (r.toList ++ [aR 14, aI x5, aI x4, aR 124]) h' Q)) :
    T (d + 1) 48 21 [some (aR 124), some (aI v1), some (aI v2), some (aI v3), some (aI v4), some (aI v5), some (aI v6), none, none] [] (G, c) Q := by
  refine e_L (L' := [some (aR 124), some (aI v1), some (aI v2), some (aI v3), some (aI v4), some (aI v5), some (aI v6), none, none]) (st' := [aI v6]) (show decode (mC 48) 21 = .ok (.iload 6, 2) by decide +kernel) rfl rfl ?_
  refine e_L (L' := [some (aR 124), some (aI v1), some (aI v2), some (aI v3), some (aI v4), some (aI v5), some (aI v6), none, none]) (st' := [aR 124, aI v6]) (show decode (mC 48) 23 = .ok (.aload_n 0, 1) by decide +kernel) rfl (by show (if 124 = 0 then none else some (_, _)) = _; rw [if_neg (by decide)]) ?_
  refine e_getR (w := 9) (show decode (mC 48) 24 = .ok (.getfield 33, 3) by decide +kernel) (show pl 5 33 = some (0, 5, 0, 0) by decide +kernel) (by decide) (sh_ok hG (by decide +kernel)) (sh_rf hG (by decide +kernel)) ?_
  refine e_getIx (show decode (mC 48) 27 = .ok (.getfield 106, 3) by decide +kernel) (show pl 5 106 = some (0, 8, 0, 0) by decide +kernel) (by decide) (sh_ok hG (by decide +kernel)) ex1 ?_
  refine e_ge2 (t := 128) (show decode (mC 48) 30 = .ok (.if_icmp .ge 98, 3) by decide +kernel) (by decide) s1 s2 (fun p1 => ?_) (fun p1 => ?_)
  · refine e_L (L' := [some (aR 124), some (aI v1), some (aI v2), some (aI v3), some (aI v4), some (aI (v5 + 1)), some (aI v6), none, none]) (st' := []) (show decode (mC 48) 128 = .ok (.iinc 5 1, 3) by decide +kernel) rfl rfl ?_
    refine e_go (t := 6) (show decode (mC 48) 131 = .ok (.goto (-125), 3) by decide +kernel) (by decide) ?_
    exact T_le hQ (leS (leS (leS (leS (leS (leS (leN (leS (leS leE))))))))) (k3 p1)
  · refine e_L (L' := [some (aR 124), some (aI v1), some (aI v2), some (aI v3), some (aI v4), some (aI v5), some (aI v6), none, none]) (st' := [aI v3]) (show decode (mC 48) 33 = .ok (.iload_n 3, 1) by decide +kernel) rfl rfl ?_
    refine e_L (L' := [some (aR 124), some (aI v1), some (aI v2), some (aI v3), some (aI v4), some (aI v5), some (aI v6), none, none]) (st' := [aR 124, aI v3]) (show decode (mC 48) 34 = .ok (.aload_n 0, 1) by decide +kernel) rfl (by show (if 124 = 0 then none else some (_, _)) = _; rw [if_neg (by decide)]) ?_
    refine e_getR (w := 9) (show decode (mC 48) 35 = .ok (.getfield 33, 3) by decide +kernel) (show pl 5 33 = some (0, 5, 0, 0) by decide +kernel) (by decide) (sh_ok hG (by decide +kernel)) (sh_rf hG (by decide +kernel)) ?_
    refine e_getR (w := 12) (show decode (mC 48) 38 = .ok (.getfield 109, 3) by decide +kernel) (show pl 5 109 = some (0, 8, 5, 0) by decide +kernel) (by decide) (sh_ok hG (by decide +kernel)) (sh_rf hG (by decide +kernel)) ?_
    refine e_L (L' := [some (aR 124), some (aI v1), some (aI v2), some (aI v3), some (aI v4), some (aI v5), some (aI v6), none, none]) (st' := [aI v5, aR 12, aI v3]) (show decode (mC 48) 41 = .ok (.iload 5, 2) by decide +kernel) rfl rfl ?_
    refine e_ialdx (n := 6) (show decode (mC 48) 43 = .ok (.iaload, 1) by decide +kernel) (sh_ok hG (by decide +kernel)) (sh_ln hG (by decide +kernel)) (by decide) (s4 p1) (s5 p1) ex2 ?_
    refine e_L (L' := [some (aR 124), some (aI v1), some (aI v2), some (aI v3), some (aI v4), some (aI v5), some (aI v6), none, none]) (st' := [aR 124, aI x2, aI v3]) (show decode (mC 48) 44 = .ok (.aload_n 0, 1) by decide +kernel) rfl (by show (if 124 = 0 then none else some (_, _)) = _; rw [if_neg (by decide)]) ?_
    refine e_getR (w := 9) (show decode (mC 48) 45 = .ok (.getfield 33, 3) by decide +kernel) (show pl 5 33 = some (0, 5, 0, 0) by decide +kernel) (by decide) (sh_ok hG (by decide +kernel)) (sh_rf hG (by decide +kernel)) ?_
    refine e_getR (w := 12) (show decode (mC 48) 48 = .ok (.getfield 109, 3) by decide +kernel) (show pl 5 109 = some (0, 8, 5, 0) by decide +kernel) (by decide) (sh_ok hG (by decide +kernel)) (sh_rf hG (by decide +kernel)) ?_
    refine e_L (L' := [some (aR 124), some (aI v1), some (aI v2), some (aI v3), some (aI v4), some (aI v5), some (aI v6), none, none]) (st' := [aI v6, aR 12, aI x2, aI v3]) (show decode (mC 48) 51 = .ok (.iload 6, 2) by decide +kernel) rfl rfl ?_
    refine e_ialdx (n := 6) (show decode (mC 48) 53 = .ok (.iaload, 1) by decide +kernel) (sh_ok hG (by decide +kernel)) (sh_ln hG (by decide +kernel)) (by decide) (s7 p1) (s8 p1) ex3 ?_
    refine e_min (show decode (mC 48) 54 = .ok (.invokestatic 83, 3) by decide +kernel) (show pl 5 83 = some (16, 0, 0, 0) by decide +kernel) (s10 p1) (s11 p1) (show (1 : Nat) ≤ 20 by decide) ?_
    refine e_min (show decode (mC 48) 57 = .ok (.invokestatic 83, 3) by decide +kernel) (show pl 5 83 = some (16, 0, 0, 0) by decide +kernel) (s12 p1) (s13 p1) (show (0 : Nat) ≤ 20 by decide) ?_
    refine e_L (L' := [some (aR 124), some (aI v1), some (aI v2), some (aI v3), some (aI v4), some (aI v5), some (aI v6), some (aI (if (if x3 < x2 then x3 else x2) < v3 then (if x3 < x2 then x3 else x2) else v3)), none]) (st' := []) (show decode (mC 48) 60 = .ok (.istore 7, 2) by decide +kernel) rfl rfl ?_
    refine e_L (L' := [some (aR 124), some (aI v1), some (aI v2), some (aI v3), some (aI v4), some (aI v5), some (aI v6), some (aI (if (if x3 < x2 then x3 else x2) < v3 then (if x3 < x2 then x3 else x2) else v3)), none]) (st' := [aR 124]) (show decode (mC 48) 62 = .ok (.aload_n 0, 1) by decide +kernel) rfl (by show (if 124 = 0 then none else some (_, _)) = _; rw [if_neg (by decide)]) ?_
    refine e_L (L' := [some (aR 124), some (aI v1), some (aI v2), some (aI v3), some (aI v4), some (aI v5), some (aI v6), some (aI (if (if x3 < x2 then x3 else x2) < v3 then (if x3 < x2 then x3 else x2) else v3)), none]) (st' := [aR 124, aR 124]) (show decode (mC 48) 63 = .ok (.aload_n 0, 1) by decide +kernel) rfl (by show (if 124 = 0 then none else some (_, _)) = _; rw [if_neg (by decide)]) ?_
    refine e_getR (w := 125) (show decode (mC 48) 64 = .ok (.getfield 9, 3) by decide +kernel) (show pl 5 9 = some (0, 5, 2, 0) by decide +kernel) (by decide) (sh_ok hG (by decide +kernel)) (sh_rf hG (by decide +kernel)) ?_
    refine e_L (L' := [some (aR 124), some (aI v1), some (aI v2), some (aI v3), some (aI v4), some (aI v5), some (aI v6), some (aI (if (if x3 < x2 then x3 else x2) < v3 then (if x3 < x2 then x3 else x2) else v3)), none]) (st' := [aI v1, aR 125, aR 124]) (show decode (mC 48) 67 = .ok (.iload_n 1, 1) by decide +kernel) rfl rfl ?_
    refine e_ialdx (n := 5) (show decode (mC 48) 68 = .ok (.iaload, 1) by decide +kernel) (sh_ok hG (by decide +kernel)) (sh_ln hG (by decide +kernel)) (by decide) (s14 p1) (s15 p1) ex4 ?_
    refine e_L (L' := [some (aR 124), some (aI v1), some (aI v2), some (aI v3), some (aI v4), some (aI v5), some (aI v6), some (aI (if (if x3 < x2 then x3 else x2) < v3 then (if x3 < x2 then x3 else x2) else v3)), none]) (st' := [aR 124, aI x4, aR 124]) (show decode (mC 48) 69 = .ok (.aload_n 0, 1) by decide +kernel) rfl (by show (if 124 = 0 then none else some (_, _)) = _; rw [if_neg (by decide)]) ?_
    refine e_getR (w := 125) (show decode (mC 48) 70 = .ok (.getfield 9, 3) by decide +kernel) (show pl 5 9 = some (0, 5, 2, 0) by decide +kernel) (by decide) (sh_ok hG (by decide +kernel)) (sh_rf hG (by decide +kernel)) ?_
    refine e_L (L' := [some (aR 124), some (aI v1), some (aI v2), some (aI v3), some (aI v4), some (aI v5), some (aI v6), some (aI (if (if x3 < x2 then x3 else x2) < v3 then (if x3 < x2 then x3 else x2) else v3)), none]) (st' := [aI v2, aR 125, aI x4, aR 124]) (show decode (mC 48) 73 = .ok (.iload_n 2, 1) by decide +kernel) rfl rfl ?_
    refine e_ialdx (n := 5) (show decode (mC 48) 74 = .ok (.iaload, 1) by decide +kernel) (sh_ok hG (by decide +kernel)) (sh_ln hG (by decide +kernel)) (by decide) (s17 p1) (s18 p1) ex5 ?_
    refine e_L (L' := [some (aR 124), some (aI v1), some (aI v2), some (aI v3), some (aI v4), some (aI v5), some (aI v6), some (aI (if (if x3 < x2 then x3 else x2) < v3 then (if x3 < x2 then x3 else x2) else v3)), none]) (st' := [aR 124, aI x5, aI x4, aR 124]) (show decode (mC 48) 75 = .ok (.aload_n 0, 1) by decide +kernel) rfl (by show (if 124 = 0 then none else some (_, _)) = _; rw [if_neg (by decide)]) ?_
    refine e_getR (w := 9) (show decode (mC 48) 76 = .ok (.getfield 33, 3) by decide +kernel) (show pl 5 33 = some (0, 5, 0, 0) by decide +kernel) (by decide) (sh_ok hG (by decide +kernel)) (sh_rf hG (by decide +kernel)) ?_
    refine e_getR (w := 14) (show decode (mC 48) 79 = .ok (.getfield 89, 3) by decide +kernel) (show pl 5 89 = some (0, 8, 7, 0) by decide +kernel) (by decide) (sh_ok hG (by decide +kernel)) (sh_rf hG (by decide +kernel)) ?_
    refine e_L (L' := [some (aR 124), some (aI v1), some (aI v2), some (aI v3), some (aI v4), some (aI v5), some (aI v6), some (aI (if (if x3 < x2 then x3 else x2) < v3 then (if x3 < x2 then x3 else x2) else v3)), none]) (st' := [aI v5, aR 14, aI x5, aI x4, aR 124]) (show decode (mC 48) 82 = .ok (.iload 5, 2) by decide +kernel) rfl rfl ?_
    refine e_L (L' := [some (aR 124), some (aI v1), some (aI v2), some (aI v3), some (aI v4), some (aI v5), some (aI v6), some (aI (if (if x3 < x2 then x3 else x2) < v3 then (if x3 < x2 then x3 else x2) else v3)), none]) (st' := [aI v6, aI v5, aR 14, aI x5, aI x4, aR 124]) (show decode (mC 48) 84 = .ok (.iload 6, 2) by decide +kernel) rfl rfl ?_
    exact e_S (as := [aI v5, aI v6]) (rest := [aR 14, aI x5, aI x4, aR 124]) (show decode (mC 48) 86 = .ok (.invokestatic 92, 3) by decide +kernel) (by decide +kernel) (show (decide ((2 : Nat) = mA 152) && decide (152 < q_law)) = true by decide +kernel) rfl (show (4 : Nat) ≤ 8 by decide) (show (2 : Nat) ≤ mL 152 by decide +kernel) (m20 p1)
/-- SoulOffice$MostSearch.fillTogether(III)I, from 89 -/
theorem b48_89 (hG : Shp G) {v1 v2 v3 v4 v5 v6 v7 u1 u2 u4 x1 : Int} (hQ : ∀ o o' h', q_eqo o o' → Q o h' → Q o' h')
    (s0 : 0 ≤ u4)
    (s1 : u4 < 36)
    (ex1 : c 14 u4 = x1)
    (m3 : TM d 50 [aR 124, aI u1, aI u2, aI x1, aI v7] (G, c) (fun r h' => T (d + 1) 48 95 [some (aR 124), some (aI v1), some (aI v2), some (aI v3), some (aI v4), some (aI v5), some (aI v6), none, none] (r.toList ++ []) h' Q)) :
    T (d + 1) 48 89 [some (aR 124), some (aI v1), some (aI v2), some (aI v3), some (aI v4), some (aI v5), some (aI v6), some (aI v7), none] [aI u4, aR 14, aI u2, aI u1, aR 124] (G, c) Q := by
  refine e_ialdx (n := 36) (show decode (mC 48) 89 = .ok (.iaload, 1) by decide +kernel) (sh_ok hG (by decide +kernel)) (sh_ln hG (by decide +kernel)) (by decide) s0 s1 ex1 ?_
  refine e_L (L' := [some (aR 124), some (aI v1), some (aI v2), some (aI v3), some (aI v4), some (aI v5), some (aI v6), some (aI v7), none]) (st' := [aI v7, aI x1, aI u2, aI u1, aR 124]) (show decode (mC 48) 90 = .ok (.iload 7, 2) by decide +kernel) rfl rfl ?_
  exact e_V (as := [aR 124, aI u1, aI u2, aI x1, aI v7]) (rest := []) (show decode (mC 48) 92 = .ok (.invokevirtual 95, 3) by decide +kernel) (by decide +kernel) (show (decide ((5 : Nat) = mA 50) && decide (50 < q_law)) = true by decide +kernel) rfl (show (0 : Nat) ≤ 8 by decide) (show (5 : Nat) ≤ mL 50 by decide +kernel) rfl (sh_ok hG (by decide +kernel)) (tm_le hQ (leS (leS (leS (leS (leS (leS (leS (leN (leS leE))))))))) m3)
/-- SoulOffice$MostSearch.fillTogether(III)I, from 95 -/
theorem b48_95 (hG : Shp G) {v1 v2 v3 v4 v5 v6 u0 : Int}
    (m0 : TM d 49 [aI v1, aI v2, aI v5, aI v6] (G, c) (fun r h' => T (d + 1) 48 110 [some (aR 124), some (aI v1), some (aI v2), some (aI v3), some (aI v4), some (aI v5), some (aI v6), none, some (aI u0)] (r.toList ++ [aR 127]) h' Q)) :
    T (d + 1) 48 95 [some (aR 124), some (aI v1), some (aI v2), some (aI v3), some (aI v4), some (aI v5), some (aI v6), none, none] [aI u0] (G, c) Q := by
  refine e_L (L' := [some (aR 124), some (aI v1), some (aI v2), some (aI v3), some (aI v4), some (aI v5), some (aI v6), none, some (aI u0)]) (st' := []) (show decode (mC 48) 95 = .ok (.istore 8, 2) by decide +kernel) rfl rfl ?_
  refine e_L (L' := [some (aR 124), some (aI v1), some (aI v2), some (aI v3), some (aI v4), some (aI v5), some (aI v6), none, some (aI u0)]) (st' := [aR 124]) (show decode (mC 48) 97 = .ok (.aload_n 0, 1) by decide +kernel) rfl (by show (if 124 = 0 then none else some (_, _)) = _; rw [if_neg (by decide)]) ?_
  refine e_getR (w := 127) (show decode (mC 48) 98 = .ok (.getfield 18, 3) by decide +kernel) (show pl 5 18 = some (0, 5, 5, 0) by decide +kernel) (by decide) (sh_ok hG (by decide +kernel)) (sh_rf hG (by decide +kernel)) ?_
  refine e_L (L' := [some (aR 124), some (aI v1), some (aI v2), some (aI v3), some (aI v4), some (aI v5), some (aI v6), none, some (aI u0)]) (st' := [aI v1, aR 127]) (show decode (mC 48) 101 = .ok (.iload_n 1, 1) by decide +kernel) rfl rfl ?_
  refine e_L (L' := [some (aR 124), some (aI v1), some (aI v2), some (aI v3), some (aI v4), some (aI v5), some (aI v6), none, some (aI u0)]) (st' := [aI v2, aI v1, aR 127]) (show decode (mC 48) 102 = .ok (.iload_n 2, 1) by decide +kernel) rfl rfl ?_
  refine e_L (L' := [some (aR 124), some (aI v1), some (aI v2), some (aI v3), some (aI v4), some (aI v5), some (aI v6), none, some (aI u0)]) (st' := [aI v5, aI v2, aI v1, aR 127]) (show decode (mC 48) 103 = .ok (.iload 5, 2) by decide +kernel) rfl rfl ?_
  refine e_L (L' := [some (aR 124), some (aI v1), some (aI v2), some (aI v3), some (aI v4), some (aI v5), some (aI v6), none, some (aI u0)]) (st' := [aI v6, aI v5, aI v2, aI v1, aR 127]) (show decode (mC 48) 105 = .ok (.iload 6, 2) by decide +kernel) rfl rfl ?_
  exact e_S (as := [aI v1, aI v2, aI v5, aI v6]) (rest := [aR 127]) (show decode (mC 48) 107 = .ok (.invokestatic 115, 3) by decide +kernel) (by decide +kernel) (show (decide ((4 : Nat) = mA 49) && decide (49 < q_law)) = true by decide +kernel) rfl (show (1 : Nat) ≤ 8 by decide) (show (4 : Nat) ≤ mL 49 by decide +kernel) m0
/-- SoulOffice$MostSearch.fillTogether(III)I, from 110 -/
theorem b48_110 (hG : Shp G) {v1 v2 v3 v4 v5 v6 v8 u1 : Int} (hQ : ∀ o o' h', q_eqo o o' → Q o h' → Q o' h')
    (s0 : 0 ≤ u1)
    (s1 : u1 < 900)
    (s2 : -2147483648 ≤ v4 ∧ v4 < 2147483648)
    (s3 : -2147483648 ≤ v8 ∧ v8 < 2147483648)
    (k4 : T (d + 1) 48 21 [some (aR 124), some (aI v1), some (aI v2), some (aI v3), some (aI (if v4 < v8 then v8 else v4)), some (aI v5), some (aI (v6 + 1)), none, none] [] (G, (q_up c 127 u1 v8)) Q) :
    T (d + 1) 48 110 [some (aR 124), some (aI v1), some (aI v2), some (aI v3), some (aI v4), some (aI v5), some (aI v6), none, some (aI v8)] [aI u1, aR 127] (G, c) Q := by
  refine e_L (L' := [some (aR 124), some (aI v1), some (aI v2), some (aI v3), some (aI v4), some (aI v5), some (aI v6), none, some (aI v8)]) (st' := [aI v8, aI u1, aR 127]) (show decode (mC 48) 110 = .ok (.iload 8, 2) by decide +kernel) rfl rfl ?_
  refine e_iast (n := 900) (show decode (mC 48) 112 = .ok (.iastore, 1) by decide +kernel) (sh_ok hG (by decide +kernel)) (sh_ln hG (by decide +kernel)) (by decide) s0 s1 ?_
  refine e_L (L' := [some (aR 124), some (aI v1), some (aI v2), some (aI v3), some (aI v4), some (aI v5), some (aI v6), none, some (aI v8)]) (st' := [aI v4]) (show decode (mC 48) 113 = .ok (.iload 4, 2) by decide +kernel) rfl rfl ?_
  refine e_L (L' := [some (aR 124), some (aI v1), some (aI v2), some (aI v3), some (aI v4), some (aI v5), some (aI v6), none, some (aI v8)]) (st' := [aI v8, aI v4]) (show decode (mC 48) 115 = .ok (.iload 8, 2) by decide +kernel) rfl rfl ?_
  refine e_max (show decode (mC 48) 117 = .ok (.invokestatic 112, 3) by decide +kernel) (show pl 5 112 = some (15, 0, 0, 0) by decide +kernel) s2 s3 (show (0 : Nat) ≤ 20 by decide) ?_
  refine e_L (L' := [some (aR 124), some (aI v1), some (aI v2), some (aI v3), some (aI (if v4 < v8 then v8 else v4)), some (aI v5), some (aI v6), none, some (aI v8)]) (st' := []) (show decode (mC 48) 120 = .ok (.istore 4, 2) by decide +kernel) rfl rfl ?_
  refine e_L (L' := [some (aR 124), some (aI v1), some (aI v2), some (aI v3), some (aI (if v4 < v8 then v8 else v4)), some (aI v5), some (aI (v6 + 1)), none, some (aI v8)]) (st' := []) (show decode (mC 48) 122 = .ok (.iinc 6 1, 3) by decide +kernel) rfl rfl ?_
  refine e_go (t := 21) (show decode (mC 48) 125 = .ok (.goto (-104), 3) by decide +kernel) (by decide) ?_
  exact T_le hQ (leS (leS (leS (leS (leS (leS (leS (leS (leN leE))))))))) k4
/-- SoulOffice$MostSearch.togetherAt(IIII)I, from 0 -/
theorem b49_0 (hG : Shp G) {v0 v1 v2 v3 : Int} (hQ : ∀ o o' h', q_eqo o o' → Q o h' → Q o' h')
    (m0 : TM d 152 [aI v2, aI v3] (G, c) (fun r h' => T (d + 1) 49 13 [none, none, none, none] (r.toList ++ [aI (((v0 * 5) + v1) * 36)]) h' Q)) :
    T (d + 1) 49 0 [some (aI v0), some (aI v1), some (aI v2), some (aI v3)] [] (G, c) Q := by
  refine e_L (L' := [some (aI v0), some (aI v1), some (aI v2), some (aI v3)]) (st' := [aI v0]) (show decode (mC 49) 0 = .ok (.iload_n 0, 1) by decide +kernel) rfl rfl ?_
  refine e_P (st' := [aI 5, aI v0]) (show decode (mC 49) 1 = .ok (.iconst 5, 1) by decide +kernel) rfl rfl rfl ?_
  refine e_P (st' := [aI (v0 * 5)]) (show decode (mC 49) 2 = .ok (.imul, 1) by decide +kernel) rfl rfl rfl ?_
  refine e_L (L' := [some (aI v0), some (aI v1), some (aI v2), some (aI v3)]) (st' := [aI v1, aI (v0 * 5)]) (show decode (mC 49) 3 = .ok (.iload_n 1, 1) by decide +kernel) rfl rfl ?_
  refine e_P (st' := [aI ((v0 * 5) + v1)]) (show decode (mC 49) 4 = .ok (.iadd, 1) by decide +kernel) rfl rfl rfl ?_
  refine e_P (st' := [aI 36, aI ((v0 * 5) + v1)]) (show decode (mC 49) 5 = .ok (.bipush 36, 2) by decide +kernel) rfl rfl rfl ?_
  refine e_P (st' := [aI (((v0 * 5) + v1) * 36)]) (show decode (mC 49) 7 = .ok (.imul, 1) by decide +kernel) rfl rfl rfl ?_
  refine e_L (L' := [some (aI v0), some (aI v1), some (aI v2), some (aI v3)]) (st' := [aI v2, aI (((v0 * 5) + v1) * 36)]) (show decode (mC 49) 8 = .ok (.iload_n 2, 1) by decide +kernel) rfl rfl ?_
  refine e_L (L' := [some (aI v0), some (aI v1), some (aI v2), some (aI v3)]) (st' := [aI v3, aI v2, aI (((v0 * 5) + v1) * 36)]) (show decode (mC 49) 9 = .ok (.iload_n 3, 1) by decide +kernel) rfl rfl ?_
  exact e_S (as := [aI v2, aI v3]) (rest := [aI (((v0 * 5) + v1) * 36)]) (show decode (mC 49) 10 = .ok (.invokestatic 92, 3) by decide +kernel) (by decide +kernel) (show (decide ((2 : Nat) = mA 152) && decide (152 < q_law)) = true by decide +kernel) rfl (show (1 : Nat) ≤ 8 by decide) (show (2 : Nat) ≤ mL 152 by decide +kernel) (tm_le hQ (leN (leN (leN (leN leE)))) m0)
/-- SoulOffice$MostSearch.togetherAt(IIII)I, from 13 -/
theorem b49_13 (hG : Shp G) {u0 u1 : Int}
    (z0 : Q (.inl (some (aI (u0 + u1)))) (G, c)) :
    T (d + 1) 49 13 [none, none, none, none] [aI u1, aI u0] (G, c) Q := by
  refine e_P (st' := [aI (u0 + u1)]) (show decode (mC 49) 13 = .ok (.iadd, 1) by decide +kernel) rfl rfl rfl ?_
  exact e_iret (show decode (mC 49) 14 = .ok (.ireturn, 1) by decide +kernel) rfl z0
/-- SoulOffice$MostSearch.pairSum(IIII)I, from 0 -/
theorem b50_0 (hG : Shp G) {v1 v2 v3 v4 : Int}
    (m0 : TM d 151 [aI v1, aI v2] (G, c) (fun r h' => T (d + 1) 50 12 [some (aR 124), some (aI v1), some (aI v2), some (aI v3), some (aI v4), none, none, none, none, none, none] (r.toList ++ [aR 33]) h' Q)) :
    T (d + 1) 50 0 [some (aR 124), some (aI v1), some (aI v2), some (aI v3), some (aI v4), none, none, none, none, none, none] [] (G, c) Q := by
  refine e_L (L' := [some (aR 124), some (aI v1), some (aI v2), some (aI v3), some (aI v4), none, none, none, none, none, none]) (st' := [aR 124]) (show decode (mC 50) 0 = .ok (.aload_n 0, 1) by decide +kernel) rfl (by show (if 124 = 0 then none else some (_, _)) = _; rw [if_neg (by decide)]) ?_
  refine e_getR (w := 27) (show decode (mC 50) 1 = .ok (.getfield 37, 3) by decide +kernel) (show pl 5 37 = some (0, 5, 1, 0) by decide +kernel) (by decide) (sh_ok hG (by decide +kernel)) (sh_rf hG (by decide +kernel)) ?_
  refine e_getR (w := 33) (show decode (mC 50) 4 = .ok (.getfield 118, 3) by decide +kernel) (show pl 5 118 = some (0, 4, 9, 0) by decide +kernel) (by decide) (sh_ok hG (by decide +kernel)) (sh_rf hG (by decide +kernel)) ?_
  refine e_L (L' := [some (aR 124), some (aI v1), some (aI v2), some (aI v3), some (aI v4), none, none, none, none, none, none]) (st' := [aI v1, aR 33]) (show decode (mC 50) 7 = .ok (.iload_n 1, 1) by decide +kernel) rfl rfl ?_
  refine e_L (L' := [some (aR 124), some (aI v1), some (aI v2), some (aI v3), some (aI v4), none, none, none, none, none, none]) (st' := [aI v2, aI v1, aR 33]) (show decode (mC 50) 8 = .ok (.iload_n 2, 1) by decide +kernel) rfl rfl ?_
  exact e_S (as := [aI v1, aI v2]) (rest := [aR 33]) (show decode (mC 50) 9 = .ok (.invokestatic 121, 3) by decide +kernel) (by decide +kernel) (show (decide ((2 : Nat) = mA 151) && decide (151 < q_law)) = true by decide +kernel) rfl (show (1 : Nat) ≤ 8 by decide) (show (2 : Nat) ≤ mL 151 by decide +kernel) m0
/-- SoulOffice$MostSearch.pairSum(IIII)I, from 12 -/
theorem b50_12 (hG : Shp G) {v1 v2 v3 v4 u1 x1 : Int} (hQ : ∀ o o' h', q_eqo o o' → Q o h' → Q o' h')
    (s0 : 0 ≤ u1)
    (s1 : u1 < 64)
    (ex1 : c 33 u1 = x1)
    (m3 : TM d 151 [aI v2, aI v1] (G, c) (fun r h' => T (d + 1) 50 27 [some (aR 124), none, none, some (aI v3), some (aI v4), some (aI x1), none, none, none, none, none] (r.toList ++ [aR 33]) h' Q)) :
    T (d + 1) 50 12 [some (aR 124), some (aI v1), some (aI v2), some (aI v3), some (aI v4), none, none, none, none, none, none] [aI u1, aR 33] (G, c) Q := by
  refine e_ialdx (n := 64) (show decode (mC 50) 12 = .ok (.iaload, 1) by decide +kernel) (sh_ok hG (by decide +kernel)) (sh_ln hG (by decide +kernel)) (by decide) s0 s1 ex1 ?_
  refine e_L (L' := [some (aR 124), some (aI v1), some (aI v2), some (aI v3), some (aI v4), some (aI x1), none, none, none, none, none]) (st' := []) (show decode (mC 50) 13 = .ok (.istore 5, 2) by decide +kernel) rfl rfl ?_
  refine e_L (L' := [some (aR 124), some (aI v1), some (aI v2), some (aI v3), some (aI v4), some (aI x1), none, none, none, none, none]) (st' := [aR 124]) (show decode (mC 50) 15 = .ok (.aload_n 0, 1) by decide +kernel) rfl (by show (if 124 = 0 then none else some (_, _)) = _; rw [if_neg (by decide)]) ?_
  refine e_getR (w := 27) (show decode (mC 50) 16 = .ok (.getfield 37, 3) by decide +kernel) (show pl 5 37 = some (0, 5, 1, 0) by decide +kernel) (by decide) (sh_ok hG (by decide +kernel)) (sh_rf hG (by decide +kernel)) ?_
  refine e_getR (w := 33) (show decode (mC 50) 19 = .ok (.getfield 118, 3) by decide +kernel) (show pl 5 118 = some (0, 4, 9, 0) by decide +kernel) (by decide) (sh_ok hG (by decide +kernel)) (sh_rf hG (by decide +kernel)) ?_
  refine e_L (L' := [some (aR 124), some (aI v1), some (aI v2), some (aI v3), some (aI v4), some (aI x1), none, none, none, none, none]) (st' := [aI v2, aR 33]) (show decode (mC 50) 22 = .ok (.iload_n 2, 1) by decide +kernel) rfl rfl ?_
  refine e_L (L' := [some (aR 124), some (aI v1), some (aI v2), some (aI v3), some (aI v4), some (aI x1), none, none, none, none, none]) (st' := [aI v1, aI v2, aR 33]) (show decode (mC 50) 23 = .ok (.iload_n 1, 1) by decide +kernel) rfl rfl ?_
  exact e_S (as := [aI v2, aI v1]) (rest := [aR 33]) (show decode (mC 50) 24 = .ok (.invokestatic 121, 3) by decide +kernel) (by decide +kernel) (show (decide ((2 : Nat) = mA 151) && decide (151 < q_law)) = true by decide +kernel) rfl (show (1 : Nat) ≤ 8 by decide) (show (2 : Nat) ≤ mL 151 by decide +kernel) (tm_le hQ (leS (leN (leN (leS (leS (leS (leS (leS (leS (leS (leS leE))))))))))) m3)
/-- SoulOffice$MostSearch.pairSum(IIII)I, from 27 -/
theorem b50_27 (hG : Shp G) {v3 v4 v5 u1 x1 : Int}
    (s0 : 0 ≤ u1)
    (s1 : u1 < 64)
    (ex1 : c 33 u1 = x1)
    (k3 : T (d + 1) 50 36 [some (aR 124), none, none, some (aI v3), some (aI v4), some (aI v5), some (aI x1), some (aI 0), some (aI 0), none, none] [] (G, c) Q) :
    T (d + 1) 50 27 [some (aR 124), none, none, some (aI v3), some (aI v4), some (aI v5), none, none, none, none, none] [aI u1, aR 33] (G, c) Q := by
  refine e_ialdx (n := 64) (show decode (mC 50) 27 = .ok (.iaload, 1) by decide +kernel) (sh_ok hG (by decide +kernel)) (sh_ln hG (by decide +kernel)) (by decide) s0 s1 ex1 ?_
  refine e_L (L' := [some (aR 124), none, none, some (aI v3), some (aI v4), some (aI v5), some (aI x1), none, none, none, none]) (st' := []) (show decode (mC 50) 28 = .ok (.istore 6, 2) by decide +kernel) rfl rfl ?_
  refine e_P (st' := [aI 0]) (show decode (mC 50) 30 = .ok (.iconst 0, 1) by decide +kernel) rfl rfl rfl ?_
  refine e_L (L' := [some (aR 124), none, none, some (aI v3), some (aI v4), some (aI v5), some (aI x1), some (aI 0), none, none, none]) (st' := []) (show decode (mC 50) 31 = .ok (.istore 7, 2) by decide +kernel) rfl rfl ?_
  refine e_P (st' := [aI 0]) (show decode (mC 50) 33 = .ok (.iconst 0, 1) by decide +kernel) rfl rfl rfl ?_
  refine e_L (L' := [some (aR 124), none, none, some (aI v3), some (aI v4), some (aI v5), some (aI x1), some (aI 0), some (aI 0), none, none]) (st' := []) (show decode (mC 50) 34 = .ok (.istore 8, 2) by decide +kernel) rfl rfl ?_
  exact k3
/-- SoulOffice$MostSearch.pairSum(IIII)I, from 36 -/
theorem b50_36 (hG : Shp G) {v3 v4 v5 v6 v7 v8 : Int} (hQ : ∀ o o' h', q_eqo o o' → Q o h' → Q o' h')
    (s0 : -2147483648 ≤ v8 ∧ v8 < 2147483648)
    (s1 : -2147483648 ≤ v4 ∧ v4 < 2147483648)
    (z2 : (v4 ≤ v8) → Q (.inl (some (aI v7))) (G, c))
    (s3 : (v8 < v4) → -2147483648 ≤ v3 ∧ v3 < 2147483648)
    (z4 : (v8 < v4) → (v3 ≤ 0) → Q (.inl (some (aI v7))) (G, c))
    (s5 : (v8 < v4) → (0 < v3) → -2147483648 ≤ (v5 + v6) ∧ (v5 + v6) < 2147483648)
    (z6 : (v8 < v4) → (0 < v3) → ((v5 + v6) ≤ 0) → Q (.inl (some (aI v7))) (G, c))
    (s7 : (v8 < v4) → (0 < v3) → (0 < (v5 + v6)) → -2147483648 ≤ v5 ∧ v5 < 2147483648)
    (s8 : (v8 < v4) → (0 < v3) → (0 < (v5 + v6)) → -2147483648 ≤ (v3 - (if v5 < v3 then v5 else v3)) ∧ (v3 - (if v5 < v3 then v5 else v3)) < 2147483648)
    (s9 : (v8 < v4) → (0 < v3) → (0 < (v5 + v6)) → -2147483648 ≤ v6 ∧ v6 < 2147483648)
    (m10 : (v8 < v4) → (0 < v3) → (0 < (v5 + v6)) → TM d 51 [aR 124, aI (v5 - (if v5 < v3 then v5 else v3))] (G, c) (fun r h' => T (d + 1) 50 93 [some (aR 124), none, none, some (aI v3), some (aI v4), none, some (aI v6), some (aI (v7 + ((if v5 < v3 then v5 else v3) + (if v6 < (v3 - (if v5 < v3 then v5 else v3)) then v6 else (v3 - (if v5 < v3 then v5 else v3)))))), some (aI v8), none, some (aI (if v6 < (v3 - (if v5 < v3 then v5 else v3)) then v6 else (v3 - (if v5 < v3 then v5 else v3))))] (r.toList ++ []) h' Q)) :
    T (d + 1) 50 36 [some (aR 124), none, none, some (aI v3), some (aI v4), some (aI v5), some (aI v6), some (aI v7), some (aI v8), none, none] [] (G, c) Q := by
  refine e_L (L' := [some (aR 124), none, none, some (aI v3), some (aI v4), some (aI v5), some (aI v6), some (aI v7), some (aI v8), none, none]) (st' := [aI v8]) (show decode (mC 50) 36 = .ok (.iload 8, 2) by decide +kernel) rfl rfl ?_
  refine e_L (L' := [some (aR 124), none, none, some (aI v3), some (aI v4), some (aI v5), some (aI v6), some (aI v7), some (aI v8), none, none]) (st' := [aI v4, aI v8]) (show decode (mC 50) 38 = .ok (.iload 4, 2) by decide +kernel) rfl rfl ?_
  refine e_ge2 (t := 112) (show decode (mC 50) 40 = .ok (.if_icmp .ge 72, 3) by decide +kernel) (by decide) s0 s1 (fun p1 => ?_) (fun p1 => ?_)
  · refine e_L (L' := [some (aR 124), none, none, some (aI v3), some (aI v4), some (aI v5), some (aI v6), some (aI v7), some (aI v8), none, none]) (st' := [aI v7]) (show decode (mC 50) 112 = .ok (.iload 7, 2) by decide +kernel) rfl rfl ?_
    exact e_iret (show decode (mC 50) 114 = .ok (.ireturn, 1) by decide +kernel) rfl (z2 p1)
  · refine e_L (L' := [some (aR 124), none, none, some (aI v3), some (aI v4), some (aI v5), some (aI v6), some (aI v7), some (aI v8), none, none]) (st' := [aI v3]) (show decode (mC 50) 43 = .ok (.iload_n 3, 1) by decide +kernel) rfl rfl ?_
    refine e_le1 (t := 112) (show decode (mC 50) 44 = .ok (.ifCond .le 68, 3) by decide +kernel) (by decide) (s3 p1) (fun p2 => ?_) (fun p2 => ?_)
    · refine e_L (L' := [some (aR 124), none, none, some (aI v3), some (aI v4), some (aI v5), some (aI v6), some (aI v7), some (aI v8), none, none]) (st' := [aI v7]) (show decode (mC 50) 112 = .ok (.iload 7, 2) by decide +kernel) rfl rfl ?_
      exact e_iret (show decode (mC 50) 114 = .ok (.ireturn, 1) by decide +kernel) rfl (z4 p1 p2)
    · refine e_L (L' := [some (aR 124), none, none, some (aI v3), some (aI v4), some (aI v5), some (aI v6), some (aI v7), some (aI v8), none, none]) (st' := [aI v5]) (show decode (mC 50) 47 = .ok (.iload 5, 2) by decide +kernel) rfl rfl ?_
      refine e_L (L' := [some (aR 124), none, none, some (aI v3), some (aI v4), some (aI v5), some (aI v6), some (aI v7), some (aI v8), none, none]) (st' := [aI v6, aI v5]) (show decode (mC 50) 49 = .ok (.iload 6, 2) by decide +kernel) rfl rfl ?_
      refine e_P (st' := [aI (v5 + v6)]) (show decode (mC 50) 51 = .ok (.iadd, 1) by decide +kernel) rfl rfl rfl ?_
      refine e_le1 (t := 112) (show decode (mC 50) 52 = .ok (.ifCond .le 60, 3) by decide +kernel) (by decide) (s5 p1 p2) (fun p3 => ?_) (fun p3 => ?_)
      · refine e_L (L' := [some (aR 124), none, none, some (aI v3), some (aI v4), some (aI v5), some (aI v6), some (aI v7), some (aI v8), none, none]) (st' := [aI v7]) (show decode (mC 50) 112 = .ok (.iload 7, 2) by decide +kernel) rfl rfl ?_
        exact e_iret (show decode (mC 50) 114 = .ok (.ireturn, 1) by decide +kernel) rfl (z6 p1 p2 p3)
      · refine e_L (L' := [some (aR 124), none, none, some (aI v3), some (aI v4), some (aI v5), some (aI v6), some (aI v7), some (aI v8), none, none]) (st' := [aI v3]) (show decode (mC 50) 55 = .ok (.iload_n 3, 1) by decide +kernel) rfl rfl ?_
        refine e_L (L' := [some (aR 124), none, none, some (aI v3), some (aI v4), some (aI v5), some (aI v6), some (aI v7), some (aI v8), none, none]) (st' := [aI v5, aI v3]) (show decode (mC 50) 56 = .ok (.iload 5, 2) by decide +kernel) rfl rfl ?_
        refine e_min (show decode (mC 50) 58 = .ok (.invokestatic 83, 3) by decide +kernel) (show pl 5 83 = some (16, 0, 0, 0) by decide +kernel) (s3 p1) (s7 p1 p2 p3) (show (0 : Nat) ≤ 20 by decide) ?_
        refine e_L (L' := [some (aR 124), none, none, some (aI v3), some (aI v4), some (aI v5), some (aI v6), some (aI v7), some (aI v8), some (aI (if v5 < v3 then v5 else v3)), none]) (st' := []) (show decode (mC 50) 61 = .ok (.istore 9, 2) by decide +kernel) rfl rfl ?_
        refine e_L (L' := [some (aR 124), none, none, some (aI v3), some (aI v4), some (aI v5), some (aI v6), some (aI v7), some (aI v8), some (aI (if v5 < v3 then v5 else v3)), none]) (st' := [aI v3]) (show decode (mC 50) 63 = .ok (.iload_n 3, 1) by decide +kernel) rfl rfl ?_
        refine e_L (L' := [some (aR 124), none, none, some (aI v3), some (aI v4), some (aI v5), some (aI v6), some (aI v7), some (aI v8), some (aI (if v5 < v3 then v5 else v3)), none]) (st' := [aI (if v5 < v3 then v5 else v3), aI v3]) (show decode (mC 50) 64 = .ok (.iload 9, 2) by decide +kernel) rfl rfl ?_
        refine e_P (st' := [aI (v3 - (if v5 < v3 then v5 else v3))]) (show decode (mC 50) 66 = .ok (.isub, 1) by decide +kernel) rfl rfl rfl ?_
        refine e_L (L' := [some (aR 124), none, none, some (aI v3), some (aI v4), some (aI v5), some (aI v6), some (aI v7), some (aI v8), some (aI (if v5 < v3 then v5 else v3)), none]) (st' := [aI v6, aI (v3 - (if v5 < v3 then v5 else v3))]) (show decode (mC 50) 67 = .ok (.iload 6, 2) by decide +kernel) rfl rfl ?_
        refine e_min (show decode (mC 50) 69 = .ok (.invokestatic 83, 3) by decide +kernel) (show pl 5 83 = some (16, 0, 0, 0) by decide +kernel) (s8 p1 p2 p3) (s9 p1 p2 p3) (show (0 : Nat) ≤ 20 by decide) ?_
        refine e_L (L' := [some (aR 124), none, none, some (aI v3), some (aI v4), some (aI v5), some (aI v6), some (aI v7), some (aI v8), some (aI (if v5 < v3 then v5 else v3)), some (aI (if v6 < (v3 - (if v5 < v3 then v5 else v3)) then v6 else (v3 - (if v5 < v3 then v5 else v3))))]) (st' := []) (show decode (mC 50) 72 = .ok (.istore 10, 2) by decide +kernel) rfl rfl ?_
        refine e_L (L' := [some (aR 124), none, none, some (aI v3), some (aI v4), some (aI v5), some (aI v6), some (aI v7), some (aI v8), some (aI (if v5 < v3 then v5 else v3)), some (aI (if v6 < (v3 - (if v5 < v3 then v5 else v3)) then v6 else (v3 - (if v5 < v3 then v5 else v3))))]) (st' := [aI v7]) (show decode (mC 50) 74 = .ok (.iload 7, 2) by decide +kernel) rfl rfl ?_
        refine e_L (L' := [some (aR 124), none, none, some (aI v3), some (aI v4), some (aI v5), some (aI v6), some (aI v7), some (aI v8), some (aI (if v5 < v3 then v5 else v3)), some (aI (if v6 < (v3 - (if v5 < v3 then v5 else v3)) then v6 else (v3 - (if v5 < v3 then v5 else v3))))]) (st' := [aI (if v5 < v3 then v5 else v3), aI v7]) (show decode (mC 50) 76 = .ok (.iload 9, 2) by decide +kernel) rfl rfl ?_
        refine e_L (L' := [some (aR 124), none, none, some (aI v3), some (aI v4), some (aI v5), some (aI v6), some (aI v7), some (aI v8), some (aI (if v5 < v3 then v5 else v3)), some (aI (if v6 < (v3 - (if v5 < v3 then v5 else v3)) then v6 else (v3 - (if v5 < v3 then v5 else v3))))]) (st' := [aI (if v6 < (v3 - (if v5 < v3 then v5 else v3)) then v6 else (v3 - (if v5 < v3 then v5 else v3))), aI (if v5 < v3 then v5 else v3), aI v7]) (show decode (mC 50) 78 = .ok (.iload 10, 2) by decide +kernel) rfl rfl ?_
        refine e_P (st' := [aI ((if v5 < v3 then v5 else v3) + (if v6 < (v3 - (if v5 < v3 then v5 else v3)) then v6 else (v3 - (if v5 < v3 then v5 else v3)))), aI v7]) (show decode (mC 50) 80 = .ok (.iadd, 1) by decide +kernel) rfl rfl rfl ?_
        refine e_P (st' := [aI (v7 + ((if v5 < v3 then v5 else v3) + (if v6 < (v3 - (if v5 < v3 then v5 else v3)) then v6 else (v3 - (if v5 < v3 then v5 else v3)))))]) (show decode (mC 50) 81 = .ok (.iadd, 1) by decide +kernel) rfl rfl rfl ?_
        refine e_L (L' := [some (aR 124), none, none, some (aI v3), some (aI v4), some (aI v5), some (aI v6), some (aI (v7 + ((if v5 < v3 then v5 else v3) + (if v6 < (v3 - (if v5 < v3 then v5 else v3)) then v6 else (v3 - (if v5 < v3 then v5 else v3)))))), some (aI v8), some (aI (if v5 < v3 then v5 else v3)), some (aI (if v6 < (v3 - (if v5 < v3 then v5 else v3)) then v6 else (v3 - (if v5 < v3 then v5 else v3))))]) (st' := []) (show decode (mC 50) 82 = .ok (.istore 7, 2) by decide +kernel) rfl rfl ?_
        refine e_L (L' := [some (aR 124), none, none, some (aI v3), some (aI v4), some (aI v5), some (aI v6), some (aI (v7 + ((if v5 < v3 then v5 else v3) + (if v6 < (v3 - (if v5 < v3 then v5 else v3)) then v6 else (v3 - (if v5 < v3 then v5 else v3)))))), some (aI v8), some (aI (if v5 < v3 then v5 else v3)), some (aI (if v6 < (v3 - (if v5 < v3 then v5 else v3)) then v6 else (v3 - (if v5 < v3 then v5 else v3))))]) (st' := [aR 124]) (show decode (mC 50) 84 = .ok (.aload_n 0, 1) by decide +kernel) rfl (by show (if 124 = 0 then none else some (_, _)) = _; rw [if_neg (by decide)]) ?_
        refine e_L (L' := [some (aR 124), none, none, some (aI v3), some (aI v4), some (aI v5), some (aI v6), some (aI (v7 + ((if v5 < v3 then v5 else v3) + (if v6 < (v3 - (if v5 < v3 then v5 else v3)) then v6 else (v3 - (if v5 < v3 then v5 else v3)))))), some (aI v8), some (aI (if v5 < v3 then v5 else v3)), some (aI (if v6 < (v3 - (if v5 < v3 then v5 else v3)) then v6 else (v3 - (if v5 < v3 then v5 else v3))))]) (st' := [aI v5, aR 124]) (show decode (mC 50) 85 = .ok (.iload 5, 2) by decide +kernel) rfl rfl ?_
        refine e_L (L' := [some (aR 124), none, none, some (aI v3), some (aI v4), some (aI v5), some (aI v6), some (aI (v7 + ((if v5 < v3 then v5 else v3) + (if v6 < (v3 - (if v5 < v3 then v5 else v3)) then v6 else (v3 - (if v5 < v3 then v5 else v3)))))), some (aI v8), some (aI (if v5 < v3 then v5 else v3)), some (aI (if v6 < (v3 - (if v5 < v3 then v5 else v3)) then v6 else (v3 - (if v5 < v3 then v5 else v3))))]) (st' := [aI (if v5 < v3 then v5 else v3), aI v5, aR 124]) (show decode (mC 50) 87 = .ok (.iload 9, 2) by decide +kernel) rfl rfl ?_
        refine e_P (st' := [aI (v5 - (if v5 < v3 then v5 else v3)), aR 124]) (show decode (mC 50) 89 = .ok (.isub, 1) by decide +kernel) rfl rfl rfl ?_
        exact e_V (as := [aR 124, aI (v5 - (if v5 < v3 then v5 else v3))]) (rest := []) (show decode (mC 50) 90 = .ok (.invokevirtual 124, 3) by decide +kernel) (by decide +kernel) (show (decide ((2 : Nat) = mA 51) && decide (51 < q_law)) = true by decide +kernel) rfl (show (0 : Nat) ≤ 8 by decide) (show (2 : Nat) ≤ mL 51 by decide +kernel) rfl (sh_ok hG (by decide +kernel)) (tm_le hQ (leS (leS (leS (leS (leS (leN (leS (leS (leS (leN (leS leE))))))))))) (m10 p1 p2 p3))
end QB14
