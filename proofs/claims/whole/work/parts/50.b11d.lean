section QB20
variable {d : Nat} {G : GG} {c : CC} {Q : OO → HH → Prop}
/-- SoulOffice.ends()I, from 0 -/
theorem b144_0 (hG : Shp G)
    (m0 : TM d 21 [aR 35, aR 27] (G, c) (fun r h' => T (d + 1) 144 11 [some (aR 1), none] (r.toList ++ []) h' Q)) :
    T (d + 1) 144 0 [some (aR 1), none] [] (G, c) Q := by
  refine e_L (L' := [some (aR 1), none]) (st' := [aR 1]) (show decode (mC 144) 0 = .ok (.aload_n 0, 1) by decide +kernel) rfl (by show (if 1 = 0 then none else some (_, _)) = _; rw [if_neg (by decide)]) ?_
  refine e_getR (w := 35) (show decode (mC 144) 1 = .ok (.getfield 38, 3) by decide +kernel) (show pl 11 38 = some (0, 11, 4, 0) by decide +kernel) (by decide) (sh_ok hG (by decide +kernel)) (sh_rf hG (by decide +kernel)) ?_
  refine e_L (L' := [some (aR 1), none]) (st' := [aR 1, aR 35]) (show decode (mC 144) 4 = .ok (.aload_n 0, 1) by decide +kernel) rfl (by show (if 1 = 0 then none else some (_, _)) = _; rw [if_neg (by decide)]) ?_
  refine e_getR (w := 27) (show decode (mC 144) 5 = .ok (.getfield 34, 3) by decide +kernel) (show pl 11 34 = some (0, 11, 3, 0) by decide +kernel) (by decide) (sh_ok hG (by decide +kernel)) (sh_rf hG (by decide +kernel)) ?_
  exact e_V (as := [aR 35, aR 27]) (rest := []) (show decode (mC 144) 8 = .ok (.invokevirtual 136, 3) by decide +kernel) (by decide +kernel) (show (decide ((2 : Nat) = mA 21) && decide (21 < q_law)) = true by decide +kernel) rfl (show (0 : Nat) ≤ 8 by decide) (show (2 : Nat) ≤ mL 21 by decide +kernel) rfl (sh_ok hG (by decide +kernel)) m0
/-- SoulOffice.ends()I, from 11 -/
theorem b144_11 (hG : Shp G)
    (k0 : T (d + 1) 144 13 [some (aR 1), some (aI 0)] [] (G, c) Q) :
    T (d + 1) 144 11 [some (aR 1), none] [] (G, c) Q := by
  refine e_P (st' := [aI 0]) (show decode (mC 144) 11 = .ok (.iconst 0, 1) by decide +kernel) rfl rfl rfl ?_
  refine e_L (L' := [some (aR 1), some (aI 0)]) (st' := []) (show decode (mC 144) 12 = .ok (.istore_n 1, 1) by decide +kernel) rfl rfl ?_
  exact k0
/-- SoulOffice.ends()I, from 13 -/
theorem b144_13 (hG : Shp G) {v1 : Int} (hQ : ∀ o o' h', q_eqo o o' → Q o h' → Q o' h')
    (s0 : -2147483648 ≤ v1 ∧ v1 < 2147483648)
    (m1 : (400 ≤ v1) → TM d 24 [aR 35] (G, c) (fun r h' => T (d + 1) 144 59 [some (aR 1), none] (r.toList ++ []) h' Q))
    (m2 : (v1 < 400) → TM d 24 [aR 35] (G, c) (fun r h' => T (d + 1) 144 27 [some (aR 1), some (aI v1)] (r.toList ++ []) h' Q)) :
    T (d + 1) 144 13 [some (aR 1), some (aI v1)] [] (G, c) Q := by
  refine e_L (L' := [some (aR 1), some (aI v1)]) (st' := [aI v1]) (show decode (mC 144) 13 = .ok (.iload_n 1, 1) by decide +kernel) rfl rfl ?_
  refine e_P (st' := [aI 400, aI v1]) (show decode (mC 144) 14 = .ok (.sipush 400, 3) by decide +kernel) rfl rfl rfl ?_
  refine e_ge2 (t := 52) (show decode (mC 144) 17 = .ok (.if_icmp .ge 35, 3) by decide +kernel) (by decide) s0 (by decide) (fun p1 => ?_) (fun p1 => ?_)
  · refine e_L (L' := [some (aR 1), some (aI v1)]) (st' := [aR 1]) (show decode (mC 144) 52 = .ok (.aload_n 0, 1) by decide +kernel) rfl (by show (if 1 = 0 then none else some (_, _)) = _; rw [if_neg (by decide)]) ?_
    refine e_getR (w := 35) (show decode (mC 144) 53 = .ok (.getfield 38, 3) by decide +kernel) (show pl 11 38 = some (0, 11, 4, 0) by decide +kernel) (by decide) (sh_ok hG (by decide +kernel)) (sh_rf hG (by decide +kernel)) ?_
    exact e_V (as := [aR 35]) (rest := []) (show decode (mC 144) 56 = .ok (.invokevirtual 252, 3) by decide +kernel) (by decide +kernel) (show (decide ((1 : Nat) = mA 24) && decide (24 < q_law)) = true by decide +kernel) rfl (show (0 : Nat) ≤ 8 by decide) (show (1 : Nat) ≤ mL 24 by decide +kernel) rfl (sh_ok hG (by decide +kernel)) (tm_le hQ (leS (leN leE)) (m1 p1))
  · refine e_L (L' := [some (aR 1), some (aI v1)]) (st' := [aR 1]) (show decode (mC 144) 20 = .ok (.aload_n 0, 1) by decide +kernel) rfl (by show (if 1 = 0 then none else some (_, _)) = _; rw [if_neg (by decide)]) ?_
    refine e_getR (w := 35) (show decode (mC 144) 21 = .ok (.getfield 38, 3) by decide +kernel) (show pl 11 38 = some (0, 11, 4, 0) by decide +kernel) (by decide) (sh_ok hG (by decide +kernel)) (sh_rf hG (by decide +kernel)) ?_
    exact e_V (as := [aR 35]) (rest := []) (show decode (mC 144) 24 = .ok (.invokevirtual 252, 3) by decide +kernel) (by decide +kernel) (show (decide ((1 : Nat) = mA 24) && decide (24 < q_law)) = true by decide +kernel) rfl (show (0 : Nat) ≤ 8 by decide) (show (1 : Nat) ≤ mL 24 by decide +kernel) rfl (sh_ok hG (by decide +kernel)) (m2 p1)
/-- SoulOffice.ends()I, from 27 -/
theorem b144_27 (hG : Shp G) {v1 u0 x1 : Int}
    (s0 : -2147483648 ≤ u0 ∧ u0 < 2147483648)
    (m1 : (¬ u0 = 0) → TM d 34 [aR 35, aI 1] (G, c) (fun r h' => T (d + 1) 144 46 [some (aR 1), some (aI v1)] (r.toList ++ []) h' Q))
    (ex1 : c 35 1 = x1)
    (z3 : (u0 = 0) → Q (.inl (some (aI x1))) (G, c)) :
    T (d + 1) 144 27 [some (aR 1), some (aI v1)] [aI u0] (G, c) Q := by
  refine e_ne1 (t := 38) (show decode (mC 144) 27 = .ok (.ifCond .ne 11, 3) by decide +kernel) (by decide) s0 (fun p1 => ?_) (fun p1 => ?_)
  · refine e_L (L' := [some (aR 1), some (aI v1)]) (st' := [aR 1]) (show decode (mC 144) 38 = .ok (.aload_n 0, 1) by decide +kernel) rfl (by show (if 1 = 0 then none else some (_, _)) = _; rw [if_neg (by decide)]) ?_
    refine e_getR (w := 35) (show decode (mC 144) 39 = .ok (.getfield 38, 3) by decide +kernel) (show pl 11 38 = some (0, 11, 4, 0) by decide +kernel) (by decide) (sh_ok hG (by decide +kernel)) (sh_rf hG (by decide +kernel)) ?_
    refine e_P (st' := [aI 1, aR 35]) (show decode (mC 144) 42 = .ok (.iconst 1, 1) by decide +kernel) rfl rfl rfl ?_
    exact e_V (as := [aR 35, aI 1]) (rest := []) (show decode (mC 144) 43 = .ok (.invokevirtual 294, 3) by decide +kernel) (by decide +kernel) (show (decide ((2 : Nat) = mA 34) && decide (34 < q_law)) = true by decide +kernel) rfl (show (0 : Nat) ≤ 8 by decide) (show (2 : Nat) ≤ mL 34 by decide +kernel) rfl (sh_ok hG (by decide +kernel)) (m1 p1)
  · refine e_L (L' := [some (aR 1), some (aI v1)]) (st' := [aR 1]) (show decode (mC 144) 30 = .ok (.aload_n 0, 1) by decide +kernel) rfl (by show (if 1 = 0 then none else some (_, _)) = _; rw [if_neg (by decide)]) ?_
    refine e_getR (w := 35) (show decode (mC 144) 31 = .ok (.getfield 38, 3) by decide +kernel) (show pl 11 38 = some (0, 11, 4, 0) by decide +kernel) (by decide) (sh_ok hG (by decide +kernel)) (sh_rf hG (by decide +kernel)) ?_
    refine e_getIx (show decode (mC 144) 34 = .ok (.getfield 249, 3) by decide +kernel) (show pl 11 249 = some (0, 4, 1, 0) by decide +kernel) (by decide) (sh_ok hG (by decide +kernel)) ex1 ?_
    exact e_iret (show decode (mC 144) 37 = .ok (.ireturn, 1) by decide +kernel) rfl (z3 p1)
/-- SoulOffice.ends()I, from 46 -/
theorem b144_46 (hG : Shp G) {v1 : Int}
    (k0 : T (d + 1) 144 13 [some (aR 1), some (aI (v1 + 1))] [] (G, c) Q) :
    T (d + 1) 144 46 [some (aR 1), some (aI v1)] [] (G, c) Q := by
  refine e_L (L' := [some (aR 1), some (aI (v1 + 1))]) (st' := []) (show decode (mC 144) 46 = .ok (.iinc 1 1, 3) by decide +kernel) rfl rfl ?_
  refine e_go (t := 13) (show decode (mC 144) 49 = .ok (.goto (-36), 3) by decide +kernel) (by decide) ?_
  exact k0
/-- SoulOffice.ends()I, from 59 -/
theorem b144_59 (hG : Shp G) {u0 x1 : Int}
    (s0 : -2147483648 ≤ u0 ∧ u0 < 2147483648)
    (z1 : (¬ u0 = 0) → Q (.inl (some (aI (-1)))) (G, c))
    (ex1 : c 35 1 = x1)
    (z3 : (u0 = 0) → Q (.inl (some (aI x1))) (G, c)) :
    T (d + 1) 144 59 [some (aR 1), none] [aI u0] (G, c) Q := by
  refine e_ne1 (t := 72) (show decode (mC 144) 59 = .ok (.ifCond .ne 13, 3) by decide +kernel) (by decide) s0 (fun p1 => ?_) (fun p1 => ?_)
  · refine e_P (st' := [aI (-1)]) (show decode (mC 144) 72 = .ok (.iconst (-1), 1) by decide +kernel) rfl rfl rfl ?_
    exact e_iret (show decode (mC 144) 73 = .ok (.ireturn, 1) by decide +kernel) rfl (z1 p1)
  · refine e_L (L' := [some (aR 1), none]) (st' := [aR 1]) (show decode (mC 144) 62 = .ok (.aload_n 0, 1) by decide +kernel) rfl (by show (if 1 = 0 then none else some (_, _)) = _; rw [if_neg (by decide)]) ?_
    refine e_getR (w := 35) (show decode (mC 144) 63 = .ok (.getfield 38, 3) by decide +kernel) (show pl 11 38 = some (0, 11, 4, 0) by decide +kernel) (by decide) (sh_ok hG (by decide +kernel)) (sh_rf hG (by decide +kernel)) ?_
    refine e_getIx (show decode (mC 144) 66 = .ok (.getfield 249, 3) by decide +kernel) (show pl 11 249 = some (0, 4, 1, 0) by decide +kernel) (by decide) (sh_ok hG (by decide +kernel)) ex1 ?_
    refine e_go (t := 73) (show decode (mC 144) 69 = .ok (.goto 4, 3) by decide +kernel) (by decide) ?_
    exact e_iret (show decode (mC 144) 73 = .ok (.ireturn, 1) by decide +kernel) rfl (z3 p1)
/-- SoulOffice.later(I)I, from 0 -/
theorem b145_0 (hG : Shp G) {v1 : Int}
    (s0 : -2147483648 ≤ v1 ∧ v1 < 2147483648)
    (z1 : (v1 < 1) → Q (.inl (some (aI (-1)))) (G, c))
    (m2 : (1 ≤ v1) → (v1 ≤ 60) → TM d 21 [aR 35, aR 27] (G, c) (fun r h' => T (d + 1) 145 24 [some (aR 1), some (aI v1)] (r.toList ++ []) h' Q))
    (z3 : (1 ≤ v1) → (60 < v1) → Q (.inl (some (aI (-1)))) (G, c)) :
    T (d + 1) 145 0 [some (aR 1), some (aI v1)] [] (G, c) Q := by
  refine e_L (L' := [some (aR 1), some (aI v1)]) (st' := [aI v1]) (show decode (mC 145) 0 = .ok (.iload_n 1, 1) by decide +kernel) rfl rfl ?_
  refine e_P (st' := [aI 1, aI v1]) (show decode (mC 145) 1 = .ok (.iconst 1, 1) by decide +kernel) rfl rfl rfl ?_
  refine e_lt2 (t := 11) (show decode (mC 145) 2 = .ok (.if_icmp .lt 9, 3) by decide +kernel) (by decide) s0 (by decide) (fun p1 => ?_) (fun p1 => ?_)
  · refine e_P (st' := [aI (-1)]) (show decode (mC 145) 11 = .ok (.iconst (-1), 1) by decide +kernel) rfl rfl rfl ?_
    exact e_iret (show decode (mC 145) 12 = .ok (.ireturn, 1) by decide +kernel) rfl (z1 p1)
  · refine e_L (L' := [some (aR 1), some (aI v1)]) (st' := [aI v1]) (show decode (mC 145) 5 = .ok (.iload_n 1, 1) by decide +kernel) rfl rfl ?_
    refine e_P (st' := [aI 60, aI v1]) (show decode (mC 145) 6 = .ok (.bipush 60, 2) by decide +kernel) rfl rfl rfl ?_
    refine e_le2 (t := 13) (show decode (mC 145) 8 = .ok (.if_icmp .le 5, 3) by decide +kernel) (by decide) s0 (by decide) (fun p2 => ?_) (fun p2 => ?_)
    · refine e_L (L' := [some (aR 1), some (aI v1)]) (st' := [aR 1]) (show decode (mC 145) 13 = .ok (.aload_n 0, 1) by decide +kernel) rfl (by show (if 1 = 0 then none else some (_, _)) = _; rw [if_neg (by decide)]) ?_
      refine e_getR (w := 35) (show decode (mC 145) 14 = .ok (.getfield 38, 3) by decide +kernel) (show pl 11 38 = some (0, 11, 4, 0) by decide +kernel) (by decide) (sh_ok hG (by decide +kernel)) (sh_rf hG (by decide +kernel)) ?_
      refine e_L (L' := [some (aR 1), some (aI v1)]) (st' := [aR 1, aR 35]) (show decode (mC 145) 17 = .ok (.aload_n 0, 1) by decide +kernel) rfl (by show (if 1 = 0 then none else some (_, _)) = _; rw [if_neg (by decide)]) ?_
      refine e_getR (w := 27) (show decode (mC 145) 18 = .ok (.getfield 34, 3) by decide +kernel) (show pl 11 34 = some (0, 11, 3, 0) by decide +kernel) (by decide) (sh_ok hG (by decide +kernel)) (sh_rf hG (by decide +kernel)) ?_
      exact e_V (as := [aR 35, aR 27]) (rest := []) (show decode (mC 145) 21 = .ok (.invokevirtual 136, 3) by decide +kernel) (by decide +kernel) (show (decide ((2 : Nat) = mA 21) && decide (21 < q_law)) = true by decide +kernel) rfl (show (0 : Nat) ≤ 8 by decide) (show (2 : Nat) ≤ mL 21 by decide +kernel) rfl (sh_ok hG (by decide +kernel)) (m2 p1 p2)
    · refine e_P (st' := [aI (-1)]) (show decode (mC 145) 11 = .ok (.iconst (-1), 1) by decide +kernel) rfl rfl rfl ?_
      exact e_iret (show decode (mC 145) 12 = .ok (.ireturn, 1) by decide +kernel) rfl (z3 p1 p2)
/-- SoulOffice.later(I)I, from 24 -/
theorem b145_24 (hG : Shp G) {v1 : Int} (hQ : ∀ o o' h', q_eqo o o' → Q o h' → Q o' h')
    (m0 : TM d 34 [aR 35, aI v1] (G, c) (fun r h' => T (d + 1) 145 32 [some (aR 1), none] (r.toList ++ []) h' Q)) :
    T (d + 1) 145 24 [some (aR 1), some (aI v1)] [] (G, c) Q := by
  refine e_L (L' := [some (aR 1), some (aI v1)]) (st' := [aR 1]) (show decode (mC 145) 24 = .ok (.aload_n 0, 1) by decide +kernel) rfl (by show (if 1 = 0 then none else some (_, _)) = _; rw [if_neg (by decide)]) ?_
  refine e_getR (w := 35) (show decode (mC 145) 25 = .ok (.getfield 38, 3) by decide +kernel) (show pl 11 38 = some (0, 11, 4, 0) by decide +kernel) (by decide) (sh_ok hG (by decide +kernel)) (sh_rf hG (by decide +kernel)) ?_
  refine e_L (L' := [some (aR 1), some (aI v1)]) (st' := [aI v1, aR 35]) (show decode (mC 145) 28 = .ok (.iload_n 1, 1) by decide +kernel) rfl rfl ?_
  exact e_V (as := [aR 35, aI v1]) (rest := []) (show decode (mC 145) 29 = .ok (.invokevirtual 294, 3) by decide +kernel) (by decide +kernel) (show (decide ((2 : Nat) = mA 34) && decide (34 < q_law)) = true by decide +kernel) rfl (show (0 : Nat) ≤ 8 by decide) (show (2 : Nat) ≤ mL 34 by decide +kernel) rfl (sh_ok hG (by decide +kernel)) (tm_le hQ (leS (leN leE)) m0)
/-- SoulOffice.later(I)I, from 32 -/
theorem b145_32 (hG : Shp G) (hQ : ∀ o o' h', q_eqo o o' → Q o h' → Q o' h')
    (m0 : TM d 24 [aR 35] (G, c) (fun r h' => T (d + 1) 145 39 [none, none] (r.toList ++ []) h' Q)) :
    T (d + 1) 145 32 [some (aR 1), none] [] (G, c) Q := by
  refine e_L (L' := [some (aR 1), none]) (st' := [aR 1]) (show decode (mC 145) 32 = .ok (.aload_n 0, 1) by decide +kernel) rfl (by show (if 1 = 0 then none else some (_, _)) = _; rw [if_neg (by decide)]) ?_
  refine e_getR (w := 35) (show decode (mC 145) 33 = .ok (.getfield 38, 3) by decide +kernel) (show pl 11 38 = some (0, 11, 4, 0) by decide +kernel) (by decide) (sh_ok hG (by decide +kernel)) (sh_rf hG (by decide +kernel)) ?_
  exact e_V (as := [aR 35]) (rest := []) (show decode (mC 145) 36 = .ok (.invokevirtual 252, 3) by decide +kernel) (by decide +kernel) (show (decide ((1 : Nat) = mA 24) && decide (24 < q_law)) = true by decide +kernel) rfl (show (0 : Nat) ≤ 8 by decide) (show (1 : Nat) ≤ mL 24 by decide +kernel) rfl (sh_ok hG (by decide +kernel)) (tm_le hQ (leN (leS leE)) m0)
/-- SoulOffice.later(I)I, from 39 -/
theorem b145_39 (hG : Shp G) {u0 : Int}
    (z0 : Q (.inl (some (aI u0))) (G, c)) :
    T (d + 1) 145 39 [none, none] [aI u0] (G, c) Q := by
  exact e_iret (show decode (mC 145) 39 = .ok (.ireturn, 1) by decide +kernel) rfl z0
/-- SoulOffice.queue(I)I, from 0 -/
theorem b146_0 (hG : Shp G) {v1 : Int}
    (m0 : TM d 70 [aR 9, aI v1] (G, c) (fun r h' => T (d + 1) 146 8 [some (aR 1), some (aI v1), none, none] (r.toList ++ []) h' Q)) :
    T (d + 1) 146 0 [some (aR 1), some (aI v1), none, none] [] (G, c) Q := by
  refine e_L (L' := [some (aR 1), some (aI v1), none, none]) (st' := [aR 1]) (show decode (mC 146) 0 = .ok (.aload_n 0, 1) by decide +kernel) rfl (by show (if 1 = 0 then none else some (_, _)) = _; rw [if_neg (by decide)]) ?_
  refine e_getR (w := 9) (show decode (mC 146) 1 = .ok (.getfield 27, 3) by decide +kernel) (show pl 11 27 = some (0, 11, 1, 0) by decide +kernel) (by decide) (sh_ok hG (by decide +kernel)) (sh_rf hG (by decide +kernel)) ?_
  refine e_L (L' := [some (aR 1), some (aI v1), none, none]) (st' := [aI v1, aR 9]) (show decode (mC 146) 4 = .ok (.iload_n 1, 1) by decide +kernel) rfl rfl ?_
  exact e_V (as := [aR 9, aI v1]) (rest := []) (show decode (mC 146) 5 = .ok (.invokevirtual 190, 3) by decide +kernel) (by decide +kernel) (show (decide ((2 : Nat) = mA 70) && decide (70 < q_law)) = true by decide +kernel) rfl (show (0 : Nat) ≤ 8 by decide) (show (2 : Nat) ≤ mL 70 by decide +kernel) rfl (sh_ok hG (by decide +kernel)) m0
/-- SoulOffice.queue(I)I, from 8 -/
theorem b146_8 (hG : Shp G) {v1 u0 : Int}
    (s0 : -2147483648 ≤ u0 ∧ u0 < 2147483648)
    (m1 : (¬ u0 = 0) → TM d 21 [aR 35, aR 27] (G, c) (fun r h' => T (d + 1) 146 24 [some (aR 1), some (aI v1), none, none] (r.toList ++ []) h' Q))
    (z2 : (u0 = 0) → Q (.inl (some (aI (-1)))) (G, c)) :
    T (d + 1) 146 8 [some (aR 1), some (aI v1), none, none] [aI u0] (G, c) Q := by
  refine e_ne1 (t := 13) (show decode (mC 146) 8 = .ok (.ifCond .ne 5, 3) by decide +kernel) (by decide) s0 (fun p1 => ?_) (fun p1 => ?_)
  · refine e_L (L' := [some (aR 1), some (aI v1), none, none]) (st' := [aR 1]) (show decode (mC 146) 13 = .ok (.aload_n 0, 1) by decide +kernel) rfl (by show (if 1 = 0 then none else some (_, _)) = _; rw [if_neg (by decide)]) ?_
    refine e_getR (w := 35) (show decode (mC 146) 14 = .ok (.getfield 38, 3) by decide +kernel) (show pl 11 38 = some (0, 11, 4, 0) by decide +kernel) (by decide) (sh_ok hG (by decide +kernel)) (sh_rf hG (by decide +kernel)) ?_
    refine e_L (L' := [some (aR 1), some (aI v1), none, none]) (st' := [aR 1, aR 35]) (show decode (mC 146) 17 = .ok (.aload_n 0, 1) by decide +kernel) rfl (by show (if 1 = 0 then none else some (_, _)) = _; rw [if_neg (by decide)]) ?_
    refine e_getR (w := 27) (show decode (mC 146) 18 = .ok (.getfield 34, 3) by decide +kernel) (show pl 11 34 = some (0, 11, 3, 0) by decide +kernel) (by decide) (sh_ok hG (by decide +kernel)) (sh_rf hG (by decide +kernel)) ?_
    exact e_V (as := [aR 35, aR 27]) (rest := []) (show decode (mC 146) 21 = .ok (.invokevirtual 136, 3) by decide +kernel) (by decide +kernel) (show (decide ((2 : Nat) = mA 21) && decide (21 < q_law)) = true by decide +kernel) rfl (show (0 : Nat) ≤ 8 by decide) (show (2 : Nat) ≤ mL 21 by decide +kernel) rfl (sh_ok hG (by decide +kernel)) (m1 p1)
  · refine e_P (st' := [aI (-1)]) (show decode (mC 146) 11 = .ok (.iconst (-1), 1) by decide +kernel) rfl rfl rfl ?_
    exact e_iret (show decode (mC 146) 12 = .ok (.ireturn, 1) by decide +kernel) rfl (z2 p1)
/-- SoulOffice.queue(I)I, from 24 -/
theorem b146_24 (hG : Shp G) {v1 : Int}
    (m0 : TM d 36 [aR 35] (G, c) (fun r h' => T (d + 1) 146 31 [some (aR 1), some (aI v1), none, none] (r.toList ++ []) h' Q)) :
    T (d + 1) 146 24 [some (aR 1), some (aI v1), none, none] [] (G, c) Q := by
  refine e_L (L' := [some (aR 1), some (aI v1), none, none]) (st' := [aR 1]) (show decode (mC 146) 24 = .ok (.aload_n 0, 1) by decide +kernel) rfl (by show (if 1 = 0 then none else some (_, _)) = _; rw [if_neg (by decide)]) ?_
  refine e_getR (w := 35) (show decode (mC 146) 25 = .ok (.getfield 38, 3) by decide +kernel) (show pl 11 38 = some (0, 11, 4, 0) by decide +kernel) (by decide) (sh_ok hG (by decide +kernel)) (sh_rf hG (by decide +kernel)) ?_
  exact e_V (as := [aR 35]) (rest := []) (show decode (mC 146) 28 = .ok (.invokevirtual 344, 3) by decide +kernel) (by decide +kernel) (show (decide ((1 : Nat) = mA 36) && decide (36 < q_law)) = true by decide +kernel) rfl (show (0 : Nat) ≤ 8 by decide) (show (1 : Nat) ≤ mL 36 by decide +kernel) rfl (sh_ok hG (by decide +kernel)) m0
/-- SoulOffice.queue(I)I, from 31 -/
theorem b146_31 (hG : Shp G) {v1 : Int}
    (k0 : T (d + 1) 146 35 [some (aR 1), some (aI v1), some (aI 0), some (aI 0)] [] (G, c) Q) :
    T (d + 1) 146 31 [some (aR 1), some (aI v1), none, none] [] (G, c) Q := by
  refine e_P (st' := [aI 0]) (show decode (mC 146) 31 = .ok (.iconst 0, 1) by decide +kernel) rfl rfl rfl ?_
  refine e_L (L' := [some (aR 1), some (aI v1), some (aI 0), none]) (st' := []) (show decode (mC 146) 32 = .ok (.istore_n 2, 1) by decide +kernel) rfl rfl ?_
  refine e_P (st' := [aI 0]) (show decode (mC 146) 33 = .ok (.iconst 0, 1) by decide +kernel) rfl rfl rfl ?_
  refine e_L (L' := [some (aR 1), some (aI v1), some (aI 0), some (aI 0)]) (st' := []) (show decode (mC 146) 34 = .ok (.istore_n 3, 1) by decide +kernel) rfl rfl ?_
  exact k0
/-- SoulOffice.queue(I)I, from 35 -/
theorem b146_35 (hG : Shp G) {v1 v2 v3 x1 x2 x3 : Int}
    (ex1 : c 9 1 = x1)
    (s1 : -2147483648 ≤ v3 ∧ v3 < 2147483648)
    (s2 : -2147483648 ≤ x1 ∧ x1 < 2147483648)
    (z3 : (x1 ≤ v3) → Q (.inl (some (aI v2))) (G, c))
    (s4 : (v3 < x1) → 0 ≤ v3)
    (s5 : (v3 < x1) → v3 < 8)
    (ex2 : c 28 v3 = x2)
    (s7 : (v3 < x1) → -2147483648 ≤ x2 ∧ x2 < 2147483648)
    (k8 : (v3 < x1) → (¬ x2 = (-1)) → T (d + 1) 146 35 [some (aR 1), some (aI v1), some (aI v2), some (aI (v3 + 1))] [] (G, c) Q)
    (ex3 : c 36 v3 = x3)
    (s10 : (v3 < x1) → (x2 = (-1)) → -2147483648 ≤ x3 ∧ x3 < 2147483648)
    (s11 : (v3 < x1) → (x2 = (-1)) → -2147483648 ≤ v1 ∧ v1 < 2147483648)
    (k12 : (v3 < x1) → (x2 = (-1)) → (¬ x3 = v1) → T (d + 1) 146 35 [some (aR 1), some (aI v1), some (aI v2), some (aI (v3 + 1))] [] (G, c) Q)
    (k13 : (v3 < x1) → (x2 = (-1)) → (x3 = v1) → T (d + 1) 146 35 [some (aR 1), some (aI v1), some (aI (q_or v2 (q_shl 1 v3))), some (aI (v3 + 1))] [] (G, c) Q) :
    T (d + 1) 146 35 [some (aR 1), some (aI v1), some (aI v2), some (aI v3)] [] (G, c) Q := by
  refine e_L (L' := [some (aR 1), some (aI v1), some (aI v2), some (aI v3)]) (st' := [aI v3]) (show decode (mC 146) 35 = .ok (.iload_n 3, 1) by decide +kernel) rfl rfl ?_
  refine e_L (L' := [some (aR 1), some (aI v1), some (aI v2), some (aI v3)]) (st' := [aR 1, aI v3]) (show decode (mC 146) 36 = .ok (.aload_n 0, 1) by decide +kernel) rfl (by show (if 1 = 0 then none else some (_, _)) = _; rw [if_neg (by decide)]) ?_
  refine e_getR (w := 9) (show decode (mC 146) 37 = .ok (.getfield 27, 3) by decide +kernel) (show pl 11 27 = some (0, 11, 1, 0) by decide +kernel) (by decide) (sh_ok hG (by decide +kernel)) (sh_rf hG (by decide +kernel)) ?_
  refine e_getIx (show decode (mC 146) 40 = .ok (.getfield 181, 3) by decide +kernel) (show pl 11 181 = some (0, 8, 1, 0) by decide +kernel) (by decide) (sh_ok hG (by decide +kernel)) ex1 ?_
  refine e_ge2 (t := 84) (show decode (mC 146) 43 = .ok (.if_icmp .ge 41, 3) by decide +kernel) (by decide) s1 s2 (fun p1 => ?_) (fun p1 => ?_)
  · refine e_L (L' := [some (aR 1), some (aI v1), some (aI v2), some (aI v3)]) (st' := [aI v2]) (show decode (mC 146) 84 = .ok (.iload_n 2, 1) by decide +kernel) rfl rfl ?_
    exact e_iret (show decode (mC 146) 85 = .ok (.ireturn, 1) by decide +kernel) rfl (z3 p1)
  · refine e_L (L' := [some (aR 1), some (aI v1), some (aI v2), some (aI v3)]) (st' := [aR 1]) (show decode (mC 146) 46 = .ok (.aload_n 0, 1) by decide +kernel) rfl (by show (if 1 = 0 then none else some (_, _)) = _; rw [if_neg (by decide)]) ?_
    refine e_getR (w := 27) (show decode (mC 146) 47 = .ok (.getfield 34, 3) by decide +kernel) (show pl 11 34 = some (0, 11, 3, 0) by decide +kernel) (by decide) (sh_ok hG (by decide +kernel)) (sh_rf hG (by decide +kernel)) ?_
    refine e_getR (w := 28) (show decode (mC 146) 50 = .ok (.getfield 219, 3) by decide +kernel) (show pl 11 219 = some (0, 4, 4, 0) by decide +kernel) (by decide) (sh_ok hG (by decide +kernel)) (sh_rf hG (by decide +kernel)) ?_
    refine e_L (L' := [some (aR 1), some (aI v1), some (aI v2), some (aI v3)]) (st' := [aI v3, aR 28]) (show decode (mC 146) 53 = .ok (.iload_n 3, 1) by decide +kernel) rfl rfl ?_
    refine e_ialdx (n := 8) (show decode (mC 146) 54 = .ok (.iaload, 1) by decide +kernel) (sh_ok hG (by decide +kernel)) (sh_ln hG (by decide +kernel)) (by decide) (s4 p1) (s5 p1) ex2 ?_
    refine e_P (st' := [aI (-1), aI x2]) (show decode (mC 146) 55 = .ok (.iconst (-1), 1) by decide +kernel) rfl rfl rfl ?_
    refine e_ne2 (t := 78) (show decode (mC 146) 56 = .ok (.if_icmp .ne 22, 3) by decide +kernel) (by decide) (s7 p1) (by decide) (fun p2 => ?_) (fun p2 => ?_)
    · refine e_L (L' := [some (aR 1), some (aI v1), some (aI v2), some (aI (v3 + 1))]) (st' := []) (show decode (mC 146) 78 = .ok (.iinc 3 1, 3) by decide +kernel) rfl rfl ?_
      refine e_go (t := 35) (show decode (mC 146) 81 = .ok (.goto (-46), 3) by decide +kernel) (by decide) ?_
      exact (k8 p1 p2)
    · refine e_L (L' := [some (aR 1), some (aI v1), some (aI v2), some (aI v3)]) (st' := [aR 1]) (show decode (mC 146) 59 = .ok (.aload_n 0, 1) by decide +kernel) rfl (by show (if 1 = 0 then none else some (_, _)) = _; rw [if_neg (by decide)]) ?_
      refine e_getR (w := 35) (show decode (mC 146) 60 = .ok (.getfield 38, 3) by decide +kernel) (show pl 11 38 = some (0, 11, 4, 0) by decide +kernel) (by decide) (sh_ok hG (by decide +kernel)) (sh_rf hG (by decide +kernel)) ?_
      refine e_getR (w := 36) (show decode (mC 146) 63 = .ok (.getfield 219, 3) by decide +kernel) (show pl 11 219 = some (0, 4, 4, 0) by decide +kernel) (by decide) (sh_ok hG (by decide +kernel)) (sh_rf hG (by decide +kernel)) ?_
      refine e_L (L' := [some (aR 1), some (aI v1), some (aI v2), some (aI v3)]) (st' := [aI v3, aR 36]) (show decode (mC 146) 66 = .ok (.iload_n 3, 1) by decide +kernel) rfl rfl ?_
      refine e_ialdx (n := 8) (show decode (mC 146) 67 = .ok (.iaload, 1) by decide +kernel) (sh_ok hG (by decide +kernel)) (sh_ln hG (by decide +kernel)) (by decide) (s4 p1) (s5 p1) ex3 ?_
      refine e_L (L' := [some (aR 1), some (aI v1), some (aI v2), some (aI v3)]) (st' := [aI v1, aI x3]) (show decode (mC 146) 68 = .ok (.iload_n 1, 1) by decide +kernel) rfl rfl ?_
      refine e_ne2 (t := 78) (show decode (mC 146) 69 = .ok (.if_icmp .ne 9, 3) by decide +kernel) (by decide) (s10 p1 p2) (s11 p1 p2) (fun p3 => ?_) (fun p3 => ?_)
      · refine e_L (L' := [some (aR 1), some (aI v1), some (aI v2), some (aI (v3 + 1))]) (st' := []) (show decode (mC 146) 78 = .ok (.iinc 3 1, 3) by decide +kernel) rfl rfl ?_
        refine e_go (t := 35) (show decode (mC 146) 81 = .ok (.goto (-46), 3) by decide +kernel) (by decide) ?_
        exact (k12 p1 p2 p3)
      · refine e_L (L' := [some (aR 1), some (aI v1), some (aI v2), some (aI v3)]) (st' := [aI v2]) (show decode (mC 146) 72 = .ok (.iload_n 2, 1) by decide +kernel) rfl rfl ?_
        refine e_P (st' := [aI 1, aI v2]) (show decode (mC 146) 73 = .ok (.iconst 1, 1) by decide +kernel) rfl rfl rfl ?_
        refine e_L (L' := [some (aR 1), some (aI v1), some (aI v2), some (aI v3)]) (st' := [aI v3, aI 1, aI v2]) (show decode (mC 146) 74 = .ok (.iload_n 3, 1) by decide +kernel) rfl rfl ?_
        refine e_P (st' := [aI (q_shl 1 v3), aI v2]) (show decode (mC 146) 75 = .ok (.ishl, 1) by decide +kernel) rfl rfl rfl ?_
        refine e_P (st' := [aI (q_or v2 (q_shl 1 v3))]) (show decode (mC 146) 76 = .ok (.ior, 1) by decide +kernel) rfl rfl rfl ?_
        refine e_L (L' := [some (aR 1), some (aI v1), some (aI (q_or v2 (q_shl 1 v3))), some (aI v3)]) (st' := []) (show decode (mC 146) 77 = .ok (.istore_n 2, 1) by decide +kernel) rfl rfl ?_
        refine e_L (L' := [some (aR 1), some (aI v1), some (aI (q_or v2 (q_shl 1 v3))), some (aI (v3 + 1))]) (st' := []) (show decode (mC 146) 78 = .ok (.iinc 3 1, 3) by decide +kernel) rfl rfl ?_
        refine e_go (t := 35) (show decode (mC 146) 81 = .ok (.goto (-46), 3) by decide +kernel) (by decide) ?_
        exact (k13 p1 p2 p3)
/-- SoulOffice.odds(II)I, from 0 -/
theorem b147_0 (hG : Shp G) {v1 v2 x1 : Int}
    (s0 : -2147483648 ≤ v1 ∧ v1 < 2147483648)
    (z1 : (v1 < 1) → Q (.inl (some (aI (-1)))) (G, c))
    (z2 : (1 ≤ v1) → (40 < v1) → Q (.inl (some (aI (-1)))) (G, c))
    (ex1 : c 9 0 = x1)
    (s4 : (1 ≤ v1) → (v1 ≤ 40) → -2147483648 ≤ x1 ∧ x1 < 2147483648)
    (m5 : (1 ≤ v1) → (v1 ≤ 40) → (1 ≤ x1) → TM d 21 [aR 35, aR 27] (G, c) (fun r h' => T (d + 1) 147 35 [some (aR 1), some (aI v1), some (aI v2), none, none, none] (r.toList ++ []) h' Q))
    (z6 : (1 ≤ v1) → (v1 ≤ 40) → (x1 < 1) → Q (.inl (some (aI (-1)))) (G, c)) :
    T (d + 1) 147 0 [some (aR 1), some (aI v1), some (aI v2), none, none, none] [] (G, c) Q := by
  refine e_L (L' := [some (aR 1), some (aI v1), some (aI v2), none, none, none]) (st' := [aI v1]) (show decode (mC 147) 0 = .ok (.iload_n 1, 1) by decide +kernel) rfl rfl ?_
  refine e_P (st' := [aI 1, aI v1]) (show decode (mC 147) 1 = .ok (.iconst 1, 1) by decide +kernel) rfl rfl rfl ?_
  refine e_lt2 (t := 22) (show decode (mC 147) 2 = .ok (.if_icmp .lt 20, 3) by decide +kernel) (by decide) s0 (by decide) (fun p1 => ?_) (fun p1 => ?_)
  · refine e_P (st' := [aI (-1)]) (show decode (mC 147) 22 = .ok (.iconst (-1), 1) by decide +kernel) rfl rfl rfl ?_
    exact e_iret (show decode (mC 147) 23 = .ok (.ireturn, 1) by decide +kernel) rfl (z1 p1)
  · refine e_L (L' := [some (aR 1), some (aI v1), some (aI v2), none, none, none]) (st' := [aI v1]) (show decode (mC 147) 5 = .ok (.iload_n 1, 1) by decide +kernel) rfl rfl ?_
    refine e_P (st' := [aI 40, aI v1]) (show decode (mC 147) 6 = .ok (.bipush 40, 2) by decide +kernel) rfl rfl rfl ?_
    refine e_gt2 (t := 22) (show decode (mC 147) 8 = .ok (.if_icmp .gt 14, 3) by decide +kernel) (by decide) s0 (by decide) (fun p2 => ?_) (fun p2 => ?_)
    · refine e_P (st' := [aI (-1)]) (show decode (mC 147) 22 = .ok (.iconst (-1), 1) by decide +kernel) rfl rfl rfl ?_
      exact e_iret (show decode (mC 147) 23 = .ok (.ireturn, 1) by decide +kernel) rfl (z2 p1 p2)
    · refine e_L (L' := [some (aR 1), some (aI v1), some (aI v2), none, none, none]) (st' := [aR 1]) (show decode (mC 147) 11 = .ok (.aload_n 0, 1) by decide +kernel) rfl (by show (if 1 = 0 then none else some (_, _)) = _; rw [if_neg (by decide)]) ?_
      refine e_getR (w := 9) (show decode (mC 147) 12 = .ok (.getfield 27, 3) by decide +kernel) (show pl 11 27 = some (0, 11, 1, 0) by decide +kernel) (by decide) (sh_ok hG (by decide +kernel)) (sh_rf hG (by decide +kernel)) ?_
      refine e_getIx (show decode (mC 147) 15 = .ok (.getfield 184, 3) by decide +kernel) (show pl 11 184 = some (0, 8, 0, 0) by decide +kernel) (by decide) (sh_ok hG (by decide +kernel)) ex1 ?_
      refine e_P (st' := [aI 1, aI x1]) (show decode (mC 147) 18 = .ok (.iconst 1, 1) by decide +kernel) rfl rfl rfl ?_
      refine e_ge2 (t := 24) (show decode (mC 147) 19 = .ok (.if_icmp .ge 5, 3) by decide +kernel) (by decide) (s4 p1 p2) (by decide) (fun p3 => ?_) (fun p3 => ?_)
      · refine e_L (L' := [some (aR 1), some (aI v1), some (aI v2), none, none, none]) (st' := [aR 1]) (show decode (mC 147) 24 = .ok (.aload_n 0, 1) by decide +kernel) rfl (by show (if 1 = 0 then none else some (_, _)) = _; rw [if_neg (by decide)]) ?_
        refine e_getR (w := 35) (show decode (mC 147) 25 = .ok (.getfield 38, 3) by decide +kernel) (show pl 11 38 = some (0, 11, 4, 0) by decide +kernel) (by decide) (sh_ok hG (by decide +kernel)) (sh_rf hG (by decide +kernel)) ?_
        refine e_L (L' := [some (aR 1), some (aI v1), some (aI v2), none, none, none]) (st' := [aR 1, aR 35]) (show decode (mC 147) 28 = .ok (.aload_n 0, 1) by decide +kernel) rfl (by show (if 1 = 0 then none else some (_, _)) = _; rw [if_neg (by decide)]) ?_
        refine e_getR (w := 27) (show decode (mC 147) 29 = .ok (.getfield 34, 3) by decide +kernel) (show pl 11 34 = some (0, 11, 3, 0) by decide +kernel) (by decide) (sh_ok hG (by decide +kernel)) (sh_rf hG (by decide +kernel)) ?_
        exact e_V (as := [aR 35, aR 27]) (rest := []) (show decode (mC 147) 32 = .ok (.invokevirtual 136, 3) by decide +kernel) (by decide +kernel) (show (decide ((2 : Nat) = mA 21) && decide (21 < q_law)) = true by decide +kernel) rfl (show (0 : Nat) ≤ 8 by decide) (show (2 : Nat) ≤ mL 21 by decide +kernel) rfl (sh_ok hG (by decide +kernel)) (m5 p1 p2 p3)
      · refine e_P (st' := [aI (-1)]) (show decode (mC 147) 22 = .ok (.iconst (-1), 1) by decide +kernel) rfl rfl rfl ?_
        exact e_iret (show decode (mC 147) 23 = .ok (.ireturn, 1) by decide +kernel) rfl (z6 p1 p2 p3)
/-- SoulOffice.odds(II)I, from 35 -/
theorem b147_35 (hG : Shp G) {v1 v2 : Int}
    (m0 : TM d 34 [aR 35, aI 30] (G, c) (fun r h' => T (d + 1) 147 44 [some (aR 1), some (aI v1), some (aI v2), none, none, none] (r.toList ++ []) h' Q)) :
    T (d + 1) 147 35 [some (aR 1), some (aI v1), some (aI v2), none, none, none] [] (G, c) Q := by
  refine e_L (L' := [some (aR 1), some (aI v1), some (aI v2), none, none, none]) (st' := [aR 1]) (show decode (mC 147) 35 = .ok (.aload_n 0, 1) by decide +kernel) rfl (by show (if 1 = 0 then none else some (_, _)) = _; rw [if_neg (by decide)]) ?_
  refine e_getR (w := 35) (show decode (mC 147) 36 = .ok (.getfield 38, 3) by decide +kernel) (show pl 11 38 = some (0, 11, 4, 0) by decide +kernel) (by decide) (sh_ok hG (by decide +kernel)) (sh_rf hG (by decide +kernel)) ?_
  refine e_P (st' := [aI 30, aR 35]) (show decode (mC 147) 39 = .ok (.bipush 30, 2) by decide +kernel) rfl rfl rfl ?_
  exact e_V (as := [aR 35, aI 30]) (rest := []) (show decode (mC 147) 41 = .ok (.invokevirtual 294, 3) by decide +kernel) (by decide +kernel) (show (decide ((2 : Nat) = mA 34) && decide (34 < q_law)) = true by decide +kernel) rfl (show (0 : Nat) ≤ 8 by decide) (show (2 : Nat) ≤ mL 34 by decide +kernel) rfl (sh_ok hG (by decide +kernel)) m0
/-- SoulOffice.odds(II)I, from 44 -/
theorem b147_44 (hG : Shp G) {v1 v2 : Int}
    (m0 : TM d 24 [aR 35] (G, c) (fun r h' => T (d + 1) 147 51 [some (aR 1), some (aI v1), some (aI v2), none, none, none] (r.toList ++ []) h' Q)) :
    T (d + 1) 147 44 [some (aR 1), some (aI v1), some (aI v2), none, none, none] [] (G, c) Q := by
  refine e_L (L' := [some (aR 1), some (aI v1), some (aI v2), none, none, none]) (st' := [aR 1]) (show decode (mC 147) 44 = .ok (.aload_n 0, 1) by decide +kernel) rfl (by show (if 1 = 0 then none else some (_, _)) = _; rw [if_neg (by decide)]) ?_
  refine e_getR (w := 35) (show decode (mC 147) 45 = .ok (.getfield 38, 3) by decide +kernel) (show pl 11 38 = some (0, 11, 4, 0) by decide +kernel) (by decide) (sh_ok hG (by decide +kernel)) (sh_rf hG (by decide +kernel)) ?_
  exact e_V (as := [aR 35]) (rest := []) (show decode (mC 147) 48 = .ok (.invokevirtual 252, 3) by decide +kernel) (by decide +kernel) (show (decide ((1 : Nat) = mA 24) && decide (24 < q_law)) = true by decide +kernel) rfl (show (0 : Nat) ≤ 8 by decide) (show (1 : Nat) ≤ mL 24 by decide +kernel) rfl (sh_ok hG (by decide +kernel)) m0
/-- SoulOffice.odds(II)I, from 51 -/
theorem b147_51 (hG : Shp G) {v1 v2 u0 : Int}
    (k0 : T (d + 1) 147 58 [some (aR 1), some (aI v1), some (aI v2), some (aI u0), some (aI 0), some (aI 0)] [] (G, c) Q) :
    T (d + 1) 147 51 [some (aR 1), some (aI v1), some (aI v2), none, none, none] [aI u0] (G, c) Q := by
  refine e_L (L' := [some (aR 1), some (aI v1), some (aI v2), some (aI u0), none, none]) (st' := []) (show decode (mC 147) 51 = .ok (.istore_n 3, 1) by decide +kernel) rfl rfl ?_
  refine e_P (st' := [aI 0]) (show decode (mC 147) 52 = .ok (.iconst 0, 1) by decide +kernel) rfl rfl rfl ?_
  refine e_L (L' := [some (aR 1), some (aI v1), some (aI v2), some (aI u0), some (aI 0), none]) (st' := []) (show decode (mC 147) 53 = .ok (.istore 4, 2) by decide +kernel) rfl rfl ?_
  refine e_P (st' := [aI 0]) (show decode (mC 147) 55 = .ok (.iconst 0, 1) by decide +kernel) rfl rfl rfl ?_
  refine e_L (L' := [some (aR 1), some (aI v1), some (aI v2), some (aI u0), some (aI 0), some (aI 0)]) (st' := []) (show decode (mC 147) 56 = .ok (.istore 5, 2) by decide +kernel) rfl rfl ?_
  exact k0
/-- SoulOffice.odds(II)I, from 58 -/
theorem b147_58 (hG : Shp G) {v1 v2 v3 v4 v5 : Int}
    (s0 : -2147483648 ≤ v5 ∧ v5 < 2147483648)
    (s1 : -2147483648 ≤ v1 ∧ v1 < 2147483648)
    (z2 : (v1 ≤ v5) → Q (.inl (some (aI v4))) (G, c))
    (m3 : (v5 < v1) → TM d 21 [aR 35, aR 27] (G, c) (fun r h' => T (d + 1) 147 75 [some (aR 1), some (aI v1), some (aI v2), some (aI v3), some (aI v4), some (aI v5)] (r.toList ++ []) h' Q)) :
    T (d + 1) 147 58 [some (aR 1), some (aI v1), some (aI v2), some (aI v3), some (aI v4), some (aI v5)] [] (G, c) Q := by
  refine e_L (L' := [some (aR 1), some (aI v1), some (aI v2), some (aI v3), some (aI v4), some (aI v5)]) (st' := [aI v5]) (show decode (mC 147) 58 = .ok (.iload 5, 2) by decide +kernel) rfl rfl ?_
  refine e_L (L' := [some (aR 1), some (aI v1), some (aI v2), some (aI v3), some (aI v4), some (aI v5)]) (st' := [aI v1, aI v5]) (show decode (mC 147) 60 = .ok (.iload_n 1, 1) by decide +kernel) rfl rfl ?_
  refine e_ge2 (t := 108) (show decode (mC 147) 61 = .ok (.if_icmp .ge 47, 3) by decide +kernel) (by decide) s0 s1 (fun p1 => ?_) (fun p1 => ?_)
  · refine e_L (L' := [some (aR 1), some (aI v1), some (aI v2), some (aI v3), some (aI v4), some (aI v5)]) (st' := [aI v4]) (show decode (mC 147) 108 = .ok (.iload 4, 2) by decide +kernel) rfl rfl ?_
    exact e_iret (show decode (mC 147) 110 = .ok (.ireturn, 1) by decide +kernel) rfl (z2 p1)
  · refine e_L (L' := [some (aR 1), some (aI v1), some (aI v2), some (aI v3), some (aI v4), some (aI v5)]) (st' := [aR 1]) (show decode (mC 147) 64 = .ok (.aload_n 0, 1) by decide +kernel) rfl (by show (if 1 = 0 then none else some (_, _)) = _; rw [if_neg (by decide)]) ?_
    refine e_getR (w := 35) (show decode (mC 147) 65 = .ok (.getfield 38, 3) by decide +kernel) (show pl 11 38 = some (0, 11, 4, 0) by decide +kernel) (by decide) (sh_ok hG (by decide +kernel)) (sh_rf hG (by decide +kernel)) ?_
    refine e_L (L' := [some (aR 1), some (aI v1), some (aI v2), some (aI v3), some (aI v4), some (aI v5)]) (st' := [aR 1, aR 35]) (show decode (mC 147) 68 = .ok (.aload_n 0, 1) by decide +kernel) rfl (by show (if 1 = 0 then none else some (_, _)) = _; rw [if_neg (by decide)]) ?_
    refine e_getR (w := 27) (show decode (mC 147) 69 = .ok (.getfield 34, 3) by decide +kernel) (show pl 11 34 = some (0, 11, 3, 0) by decide +kernel) (by decide) (sh_ok hG (by decide +kernel)) (sh_rf hG (by decide +kernel)) ?_
    exact e_V (as := [aR 35, aR 27]) (rest := []) (show decode (mC 147) 72 = .ok (.invokevirtual 136, 3) by decide +kernel) (by decide +kernel) (show (decide ((2 : Nat) = mA 21) && decide (21 < q_law)) = true by decide +kernel) rfl (show (0 : Nat) ≤ 8 by decide) (show (2 : Nat) ≤ mL 21 by decide +kernel) rfl (sh_ok hG (by decide +kernel)) (m3 p1)
/-- SoulOffice.odds(II)I, from 75 -/
theorem b147_75 (hG : Shp G) {v1 v2 v3 v4 v5 : Int}
    (m0 : TM d 35 [aR 35, aI 30, aI (v2 + v5)] (G, c) (fun r h' => T (d + 1) 147 88 [some (aR 1), some (aI v1), some (aI v2), some (aI v3), some (aI v4), some (aI v5)] (r.toList ++ []) h' Q)) :
    T (d + 1) 147 75 [some (aR 1), some (aI v1), some (aI v2), some (aI v3), some (aI v4), some (aI v5)] [] (G, c) Q := by
  refine e_L (L' := [some (aR 1), some (aI v1), some (aI v2), some (aI v3), some (aI v4), some (aI v5)]) (st' := [aR 1]) (show decode (mC 147) 75 = .ok (.aload_n 0, 1) by decide +kernel) rfl (by show (if 1 = 0 then none else some (_, _)) = _; rw [if_neg (by decide)]) ?_
  refine e_getR (w := 35) (show decode (mC 147) 76 = .ok (.getfield 38, 3) by decide +kernel) (show pl 11 38 = some (0, 11, 4, 0) by decide +kernel) (by decide) (sh_ok hG (by decide +kernel)) (sh_rf hG (by decide +kernel)) ?_
  refine e_P (st' := [aI 30, aR 35]) (show decode (mC 147) 79 = .ok (.bipush 30, 2) by decide +kernel) rfl rfl rfl ?_
  refine e_L (L' := [some (aR 1), some (aI v1), some (aI v2), some (aI v3), some (aI v4), some (aI v5)]) (st' := [aI v2, aI 30, aR 35]) (show decode (mC 147) 81 = .ok (.iload_n 2, 1) by decide +kernel) rfl rfl ?_
  refine e_L (L' := [some (aR 1), some (aI v1), some (aI v2), some (aI v3), some (aI v4), some (aI v5)]) (st' := [aI v5, aI v2, aI 30, aR 35]) (show decode (mC 147) 82 = .ok (.iload 5, 2) by decide +kernel) rfl rfl ?_
  refine e_P (st' := [aI (v2 + v5), aI 30, aR 35]) (show decode (mC 147) 84 = .ok (.iadd, 1) by decide +kernel) rfl rfl rfl ?_
  exact e_V (as := [aR 35, aI 30, aI (v2 + v5)]) (rest := []) (show decode (mC 147) 85 = .ok (.invokevirtual 297, 3) by decide +kernel) (by decide +kernel) (show (decide ((3 : Nat) = mA 35) && decide (35 < q_law)) = true by decide +kernel) rfl (show (0 : Nat) ≤ 8 by decide) (show (3 : Nat) ≤ mL 35 by decide +kernel) rfl (sh_ok hG (by decide +kernel)) m0
/-- SoulOffice.odds(II)I, from 88 -/
theorem b147_88 (hG : Shp G) {v1 v2 v3 v4 v5 : Int}
    (m0 : TM d 24 [aR 35] (G, c) (fun r h' => T (d + 1) 147 95 [some (aR 1), some (aI v1), some (aI v2), some (aI v3), some (aI v4), some (aI v5)] (r.toList ++ []) h' Q)) :
    T (d + 1) 147 88 [some (aR 1), some (aI v1), some (aI v2), some (aI v3), some (aI v4), some (aI v5)] [] (G, c) Q := by
  refine e_L (L' := [some (aR 1), some (aI v1), some (aI v2), some (aI v3), some (aI v4), some (aI v5)]) (st' := [aR 1]) (show decode (mC 147) 88 = .ok (.aload_n 0, 1) by decide +kernel) rfl (by show (if 1 = 0 then none else some (_, _)) = _; rw [if_neg (by decide)]) ?_
  refine e_getR (w := 35) (show decode (mC 147) 89 = .ok (.getfield 38, 3) by decide +kernel) (show pl 11 38 = some (0, 11, 4, 0) by decide +kernel) (by decide) (sh_ok hG (by decide +kernel)) (sh_rf hG (by decide +kernel)) ?_
  exact e_V (as := [aR 35]) (rest := []) (show decode (mC 147) 92 = .ok (.invokevirtual 252, 3) by decide +kernel) (by decide +kernel) (show (decide ((1 : Nat) = mA 24) && decide (24 < q_law)) = true by decide +kernel) rfl (show (0 : Nat) ≤ 8 by decide) (show (1 : Nat) ≤ mL 24 by decide +kernel) rfl (sh_ok hG (by decide +kernel)) m0
/-- SoulOffice.odds(II)I, from 95 -/
theorem b147_95 (hG : Shp G) {v1 v2 v3 v4 v5 u0 : Int}
    (s0 : -2147483648 ≤ u0 ∧ u0 < 2147483648)
    (s1 : -2147483648 ≤ v3 ∧ v3 < 2147483648)
    (k2 : (v3 ≤ u0) → T (d + 1) 147 58 [some (aR 1), some (aI v1), some (aI v2), some (aI v3), some (aI v4), some (aI (v5 + 1))] [] (G, c) Q)
    (k3 : (u0 < v3) → T (d + 1) 147 58 [some (aR 1), some (aI v1), some (aI v2), some (aI v3), some (aI (v4 + 1)), some (aI (v5 + 1))] [] (G, c) Q) :
    T (d + 1) 147 95 [some (aR 1), some (aI v1), some (aI v2), some (aI v3), some (aI v4), some (aI v5)] [aI u0] (G, c) Q := by
  refine e_L (L' := [some (aR 1), some (aI v1), some (aI v2), some (aI v3), some (aI v4), some (aI v5)]) (st' := [aI v3, aI u0]) (show decode (mC 147) 95 = .ok (.iload_n 3, 1) by decide +kernel) rfl rfl ?_
  refine e_ge2 (t := 102) (show decode (mC 147) 96 = .ok (.if_icmp .ge 6, 3) by decide +kernel) (by decide) s0 s1 (fun p1 => ?_) (fun p1 => ?_)
  · refine e_L (L' := [some (aR 1), some (aI v1), some (aI v2), some (aI v3), some (aI v4), some (aI (v5 + 1))]) (st' := []) (show decode (mC 147) 102 = .ok (.iinc 5 1, 3) by decide +kernel) rfl rfl ?_
    refine e_go (t := 58) (show decode (mC 147) 105 = .ok (.goto (-47), 3) by decide +kernel) (by decide) ?_
    exact (k2 p1)
  · refine e_L (L' := [some (aR 1), some (aI v1), some (aI v2), some (aI v3), some (aI (v4 + 1)), some (aI v5)]) (st' := []) (show decode (mC 147) 99 = .ok (.iinc 4 1, 3) by decide +kernel) rfl rfl ?_
    refine e_L (L' := [some (aR 1), some (aI v1), some (aI v2), some (aI v3), some (aI (v4 + 1)), some (aI (v5 + 1))]) (st' := []) (show decode (mC 147) 102 = .ok (.iinc 5 1, 3) by decide +kernel) rfl rfl ?_
    refine e_go (t := 58) (show decode (mC 147) 105 = .ok (.goto (-47), 3) by decide +kernel) (by decide) ?_
    exact (k3 p1)
/-- SoulOffice.countWays(II)I, from 0 -/
theorem b148_0 (hG : Shp G) {v1 v2 : Int}
    (k0 : T (d + 1) 148 5 [some (aR 1), some (aI v1), some (aI v2), some (aI 0), some (aI 0), none, none] [] (G, c) Q) :
    T (d + 1) 148 0 [some (aR 1), some (aI v1), some (aI v2), none, none, none, none] [] (G, c) Q := by
  refine e_P (st' := [aI 0]) (show decode (mC 148) 0 = .ok (.iconst 0, 1) by decide +kernel) rfl rfl rfl ?_
  refine e_L (L' := [some (aR 1), some (aI v1), some (aI v2), some (aI 0), none, none, none]) (st' := []) (show decode (mC 148) 1 = .ok (.istore_n 3, 1) by decide +kernel) rfl rfl ?_
  refine e_P (st' := [aI 0]) (show decode (mC 148) 2 = .ok (.iconst 0, 1) by decide +kernel) rfl rfl rfl ?_
  refine e_L (L' := [some (aR 1), some (aI v1), some (aI v2), some (aI 0), some (aI 0), none, none]) (st' := []) (show decode (mC 148) 3 = .ok (.istore 4, 2) by decide +kernel) rfl rfl ?_
  exact k0
/-- SoulOffice.countWays(II)I, from 5 -/
theorem b148_5 (hG : Shp G) {v1 v2 v3 v4 x1 : Int}
    (ex1 : c 9 0 = x1)
    (s1 : -2147483648 ≤ v4 ∧ v4 < 2147483648)
    (s2 : -2147483648 ≤ x1 ∧ x1 < 2147483648)
    (z3 : (x1 ≤ v4) → Q (.inl (some (aI v3))) (G, c))
    (k4 : (v4 < x1) → T (d + 1) 148 20 [some (aR 1), some (aI v1), some (aI v2), some (aI v3), some (aI v4), some (aI 0), none] [] (G, c) Q) :
    T (d + 1) 148 5 [some (aR 1), some (aI v1), some (aI v2), some (aI v3), some (aI v4), none, none] [] (G, c) Q := by
  refine e_L (L' := [some (aR 1), some (aI v1), some (aI v2), some (aI v3), some (aI v4), none, none]) (st' := [aI v4]) (show decode (mC 148) 5 = .ok (.iload 4, 2) by decide +kernel) rfl rfl ?_
  refine e_L (L' := [some (aR 1), some (aI v1), some (aI v2), some (aI v3), some (aI v4), none, none]) (st' := [aR 1, aI v4]) (show decode (mC 148) 7 = .ok (.aload_n 0, 1) by decide +kernel) rfl (by show (if 1 = 0 then none else some (_, _)) = _; rw [if_neg (by decide)]) ?_
  refine e_getR (w := 9) (show decode (mC 148) 8 = .ok (.getfield 27, 3) by decide +kernel) (show pl 11 27 = some (0, 11, 1, 0) by decide +kernel) (by decide) (sh_ok hG (by decide +kernel)) (sh_rf hG (by decide +kernel)) ?_
  refine e_getIx (show decode (mC 148) 11 = .ok (.getfield 184, 3) by decide +kernel) (show pl 11 184 = some (0, 8, 0, 0) by decide +kernel) (by decide) (sh_ok hG (by decide +kernel)) ex1 ?_
  refine e_ge2 (t := 116) (show decode (mC 148) 14 = .ok (.if_icmp .ge 102, 3) by decide +kernel) (by decide) s1 s2 (fun p1 => ?_) (fun p1 => ?_)
  · refine e_L (L' := [some (aR 1), some (aI v1), some (aI v2), some (aI v3), some (aI v4), none, none]) (st' := [aI v3]) (show decode (mC 148) 116 = .ok (.iload_n 3, 1) by decide +kernel) rfl rfl ?_
    exact e_iret (show decode (mC 148) 117 = .ok (.ireturn, 1) by decide +kernel) rfl (z3 p1)
  · refine e_P (st' := [aI 0]) (show decode (mC 148) 17 = .ok (.iconst 0, 1) by decide +kernel) rfl rfl rfl ?_
    refine e_L (L' := [some (aR 1), some (aI v1), some (aI v2), some (aI v3), some (aI v4), some (aI 0), none]) (st' := []) (show decode (mC 148) 18 = .ok (.istore 5, 2) by decide +kernel) rfl rfl ?_
    exact (k4 p1)
/-- SoulOffice.countWays(II)I, from 20 -/
theorem b148_20 (hG : Shp G) {v1 v2 v3 v4 v5 x1 : Int} (hQ : ∀ o o' h', q_eqo o o' → Q o h' → Q o' h')
    (ex1 : c 9 0 = x1)
    (s1 : -2147483648 ≤ v5 ∧ v5 < 2147483648)
    (s2 : -2147483648 ≤ x1 ∧ x1 < 2147483648)
    (k3 : (x1 ≤ v5) → T (d + 1) 148 5 [some (aR 1), some (aI v1), some (aI v2), some (aI v3), some (aI (v4 + 1)), none, none] [] (G, c) Q)
    (k4 : (v5 < x1) → T (d + 1) 148 35 [some (aR 1), some (aI v1), some (aI v2), some (aI v3), some (aI v4), some (aI v5), some (aI 0)] [] (G, c) Q) :
    T (d + 1) 148 20 [some (aR 1), some (aI v1), some (aI v2), some (aI v3), some (aI v4), some (aI v5), none] [] (G, c) Q := by
  refine e_L (L' := [some (aR 1), some (aI v1), some (aI v2), some (aI v3), some (aI v4), some (aI v5), none]) (st' := [aI v5]) (show decode (mC 148) 20 = .ok (.iload 5, 2) by decide +kernel) rfl rfl ?_
  refine e_L (L' := [some (aR 1), some (aI v1), some (aI v2), some (aI v3), some (aI v4), some (aI v5), none]) (st' := [aR 1, aI v5]) (show decode (mC 148) 22 = .ok (.aload_n 0, 1) by decide +kernel) rfl (by show (if 1 = 0 then none else some (_, _)) = _; rw [if_neg (by decide)]) ?_
  refine e_getR (w := 9) (show decode (mC 148) 23 = .ok (.getfield 27, 3) by decide +kernel) (show pl 11 27 = some (0, 11, 1, 0) by decide +kernel) (by decide) (sh_ok hG (by decide +kernel)) (sh_rf hG (by decide +kernel)) ?_
  refine e_getIx (show decode (mC 148) 26 = .ok (.getfield 184, 3) by decide +kernel) (show pl 11 184 = some (0, 8, 0, 0) by decide +kernel) (by decide) (sh_ok hG (by decide +kernel)) ex1 ?_
  refine e_ge2 (t := 110) (show decode (mC 148) 29 = .ok (.if_icmp .ge 81, 3) by decide +kernel) (by decide) s1 s2 (fun p1 => ?_) (fun p1 => ?_)
  · refine e_L (L' := [some (aR 1), some (aI v1), some (aI v2), some (aI v3), some (aI (v4 + 1)), some (aI v5), none]) (st' := []) (show decode (mC 148) 110 = .ok (.iinc 4 1, 3) by decide +kernel) rfl rfl ?_
    refine e_go (t := 5) (show decode (mC 148) 113 = .ok (.goto (-108), 3) by decide +kernel) (by decide) ?_
    exact T_le hQ (leS (leS (leS (leS (leS (leN (leS leE))))))) (k3 p1)
  · refine e_P (st' := [aI 0]) (show decode (mC 148) 32 = .ok (.iconst 0, 1) by decide +kernel) rfl rfl rfl ?_
    refine e_L (L' := [some (aR 1), some (aI v1), some (aI v2), some (aI v3), some (aI v4), some (aI v5), some (aI 0)]) (st' := []) (show decode (mC 148) 33 = .ok (.istore 6, 2) by decide +kernel) rfl rfl ?_
    exact (k4 p1)
/-- SoulOffice.countWays(II)I, from 35 -/
theorem b148_35 (hG : Shp G) {v1 v2 v3 v4 v5 v6 : Int} (hQ : ∀ o o' h', q_eqo o o' → Q o h' → Q o' h')
    (s0 : -2147483648 ≤ v6 ∧ v6 < 2147483648)
    (k1 : (9 < v6) → T (d + 1) 148 20 [some (aR 1), some (aI v1), some (aI v2), some (aI v3), some (aI v4), some (aI (v5 + 1)), none] [] (G, c) Q)
    (m2 : (v6 ≤ 9) → TM d 72 [aR 9, aI v1, aI v4] (G, c) (fun r h' => T (d + 1) 148 52 [some (aR 1), some (aI v1), some (aI v2), some (aI v3), some (aI v4), some (aI v5), some (aI v6)] (r.toList ++ []) h' Q)) :
    T (d + 1) 148 35 [some (aR 1), some (aI v1), some (aI v2), some (aI v3), some (aI v4), some (aI v5), some (aI v6)] [] (G, c) Q := by
  refine e_L (L' := [some (aR 1), some (aI v1), some (aI v2), some (aI v3), some (aI v4), some (aI v5), some (aI v6)]) (st' := [aI v6]) (show decode (mC 148) 35 = .ok (.iload 6, 2) by decide +kernel) rfl rfl ?_
  refine e_P (st' := [aI 9, aI v6]) (show decode (mC 148) 37 = .ok (.bipush 9, 2) by decide +kernel) rfl rfl rfl ?_
  refine e_gt2 (t := 104) (show decode (mC 148) 39 = .ok (.if_icmp .gt 65, 3) by decide +kernel) (by decide) s0 (by decide) (fun p1 => ?_) (fun p1 => ?_)
  · refine e_L (L' := [some (aR 1), some (aI v1), some (aI v2), some (aI v3), some (aI v4), some (aI (v5 + 1)), some (aI v6)]) (st' := []) (show decode (mC 148) 104 = .ok (.iinc 5 1, 3) by decide +kernel) rfl rfl ?_
    refine e_go (t := 20) (show decode (mC 148) 107 = .ok (.goto (-87), 3) by decide +kernel) (by decide) ?_
    exact T_le hQ (leS (leS (leS (leS (leS (leS (leN leE))))))) (k1 p1)
  · refine e_L (L' := [some (aR 1), some (aI v1), some (aI v2), some (aI v3), some (aI v4), some (aI v5), some (aI v6)]) (st' := [aR 1]) (show decode (mC 148) 42 = .ok (.aload_n 0, 1) by decide +kernel) rfl (by show (if 1 = 0 then none else some (_, _)) = _; rw [if_neg (by decide)]) ?_
    refine e_getR (w := 9) (show decode (mC 148) 43 = .ok (.getfield 27, 3) by decide +kernel) (show pl 11 27 = some (0, 11, 1, 0) by decide +kernel) (by decide) (sh_ok hG (by decide +kernel)) (sh_rf hG (by decide +kernel)) ?_
    refine e_L (L' := [some (aR 1), some (aI v1), some (aI v2), some (aI v3), some (aI v4), some (aI v5), some (aI v6)]) (st' := [aI v1, aR 9]) (show decode (mC 148) 46 = .ok (.iload_n 1, 1) by decide +kernel) rfl rfl ?_
    refine e_L (L' := [some (aR 1), some (aI v1), some (aI v2), some (aI v3), some (aI v4), some (aI v5), some (aI v6)]) (st' := [aI v4, aI v1, aR 9]) (show decode (mC 148) 47 = .ok (.iload 4, 2) by decide +kernel) rfl rfl ?_
    exact e_V (as := [aR 9, aI v1, aI v4]) (rest := []) (show decode (mC 148) 49 = .ok (.invokevirtual 347, 3) by decide +kernel) (by decide +kernel) (show (decide ((3 : Nat) = mA 72) && decide (72 < q_law)) = true by decide +kernel) rfl (show (0 : Nat) ≤ 8 by decide) (show (3 : Nat) ≤ mL 72 by decide +kernel) rfl (sh_ok hG (by decide +kernel)) (m2 p1)
/-- SoulOffice.countWays(II)I, from 52 -/
theorem b148_52 (hG : Shp G) {v1 v2 v3 v4 v5 v6 u0 : Int}
    (s0 : -2147483648 ≤ u0 ∧ u0 < 2147483648)
    (k1 : (u0 = 0) → T (d + 1) 148 35 [some (aR 1), some (aI v1), some (aI v2), some (aI v3), some (aI v4), some (aI v5), some (aI (v6 + 1))] [] (G, c) Q)
    (m2 : (¬ u0 = 0) → TM d 72 [aR 9, aI v2, aI v5] (G, c) (fun r h' => T (d + 1) 148 65 [some (aR 1), some (aI v1), some (aI v2), some (aI v3), some (aI v4), some (aI v5), some (aI v6)] (r.toList ++ []) h' Q)) :
    T (d + 1) 148 52 [some (aR 1), some (aI v1), some (aI v2), some (aI v3), some (aI v4), some (aI v5), some (aI v6)] [aI u0] (G, c) Q := by
  refine e_eq1 (t := 98) (show decode (mC 148) 52 = .ok (.ifCond .eq 46, 3) by decide +kernel) (by decide) s0 (fun p1 => ?_) (fun p1 => ?_)
  · refine e_L (L' := [some (aR 1), some (aI v1), some (aI v2), some (aI v3), some (aI v4), some (aI v5), some (aI (v6 + 1))]) (st' := []) (show decode (mC 148) 98 = .ok (.iinc 6 1, 3) by decide +kernel) rfl rfl ?_
    refine e_go (t := 35) (show decode (mC 148) 101 = .ok (.goto (-66), 3) by decide +kernel) (by decide) ?_
    exact (k1 p1)
  · refine e_L (L' := [some (aR 1), some (aI v1), some (aI v2), some (aI v3), some (aI v4), some (aI v5), some (aI v6)]) (st' := [aR 1]) (show decode (mC 148) 55 = .ok (.aload_n 0, 1) by decide +kernel) rfl (by show (if 1 = 0 then none else some (_, _)) = _; rw [if_neg (by decide)]) ?_
    refine e_getR (w := 9) (show decode (mC 148) 56 = .ok (.getfield 27, 3) by decide +kernel) (show pl 11 27 = some (0, 11, 1, 0) by decide +kernel) (by decide) (sh_ok hG (by decide +kernel)) (sh_rf hG (by decide +kernel)) ?_
    refine e_L (L' := [some (aR 1), some (aI v1), some (aI v2), some (aI v3), some (aI v4), some (aI v5), some (aI v6)]) (st' := [aI v2, aR 9]) (show decode (mC 148) 59 = .ok (.iload_n 2, 1) by decide +kernel) rfl rfl ?_
    refine e_L (L' := [some (aR 1), some (aI v1), some (aI v2), some (aI v3), some (aI v4), some (aI v5), some (aI v6)]) (st' := [aI v5, aI v2, aR 9]) (show decode (mC 148) 60 = .ok (.iload 5, 2) by decide +kernel) rfl rfl ?_
    exact e_V (as := [aR 9, aI v2, aI v5]) (rest := []) (show decode (mC 148) 62 = .ok (.invokevirtual 347, 3) by decide +kernel) (by decide +kernel) (show (decide ((3 : Nat) = mA 72) && decide (72 < q_law)) = true by decide +kernel) rfl (show (0 : Nat) ≤ 8 by decide) (show (3 : Nat) ≤ mL 72 by decide +kernel) rfl (sh_ok hG (by decide +kernel)) (m2 p1)
/-- SoulOffice.countWays(II)I, from 65 -/
theorem b148_65 (hG : Shp G) {v1 v2 v3 v4 v5 v6 u0 : Int}
    (s0 : -2147483648 ≤ u0 ∧ u0 < 2147483648)
    (k1 : (u0 = 0) → T (d + 1) 148 35 [some (aR 1), some (aI v1), some (aI v2), some (aI v3), some (aI v4), some (aI v5), some (aI (v6 + 1))] [] (G, c) Q)
    (m2 : (¬ u0 = 0) → TM d 149 [aR 1, aI v4, aI v5, aI v6] (G, c) (fun r h' => T (d + 1) 148 78 [some (aR 1), some (aI v1), some (aI v2), some (aI v3), some (aI v4), some (aI v5), some (aI v6)] (r.toList ++ []) h' Q)) :
    T (d + 1) 148 65 [some (aR 1), some (aI v1), some (aI v2), some (aI v3), some (aI v4), some (aI v5), some (aI v6)] [aI u0] (G, c) Q := by
  refine e_eq1 (t := 98) (show decode (mC 148) 65 = .ok (.ifCond .eq 33, 3) by decide +kernel) (by decide) s0 (fun p1 => ?_) (fun p1 => ?_)
  · refine e_L (L' := [some (aR 1), some (aI v1), some (aI v2), some (aI v3), some (aI v4), some (aI v5), some (aI (v6 + 1))]) (st' := []) (show decode (mC 148) 98 = .ok (.iinc 6 1, 3) by decide +kernel) rfl rfl ?_
    refine e_go (t := 35) (show decode (mC 148) 101 = .ok (.goto (-66), 3) by decide +kernel) (by decide) ?_
    exact (k1 p1)
  · refine e_L (L' := [some (aR 1), some (aI v1), some (aI v2), some (aI v3), some (aI v4), some (aI v5), some (aI v6)]) (st' := [aR 1]) (show decode (mC 148) 68 = .ok (.aload_n 0, 1) by decide +kernel) rfl (by show (if 1 = 0 then none else some (_, _)) = _; rw [if_neg (by decide)]) ?_
    refine e_L (L' := [some (aR 1), some (aI v1), some (aI v2), some (aI v3), some (aI v4), some (aI v5), some (aI v6)]) (st' := [aI v4, aR 1]) (show decode (mC 148) 69 = .ok (.iload 4, 2) by decide +kernel) rfl rfl ?_
    refine e_L (L' := [some (aR 1), some (aI v1), some (aI v2), some (aI v3), some (aI v4), some (aI v5), some (aI v6)]) (st' := [aI v5, aI v4, aR 1]) (show decode (mC 148) 71 = .ok (.iload 5, 2) by decide +kernel) rfl rfl ?_
    refine e_L (L' := [some (aR 1), some (aI v1), some (aI v2), some (aI v3), some (aI v4), some (aI v5), some (aI v6)]) (st' := [aI v6, aI v5, aI v4, aR 1]) (show decode (mC 148) 73 = .ok (.iload 6, 2) by decide +kernel) rfl rfl ?_
    exact e_V (as := [aR 1, aI v4, aI v5, aI v6]) (rest := []) (show decode (mC 148) 75 = .ok (.invokevirtual 350, 3) by decide +kernel) (by decide +kernel) (show (decide ((4 : Nat) = mA 149) && decide (149 < q_law)) = true by decide +kernel) rfl (show (0 : Nat) ≤ 8 by decide) (show (4 : Nat) ≤ mL 149 by decide +kernel) rfl (sh_ok hG (by decide +kernel)) (m2 p1)
/-- SoulOffice.countWays(II)I, from 78 -/
theorem b148_78 (hG : Shp G) {v1 v2 v3 v4 v5 v6 u0 : Int}
    (s0 : -2147483648 ≤ u0 ∧ u0 < 2147483648)
    (k1 : (u0 = 0) → T (d + 1) 148 35 [some (aR 1), some (aI v1), some (aI v2), some (aI v3), some (aI v4), some (aI v5), some (aI (v6 + 1))] [] (G, c) Q)
    (s2 : (¬ u0 = 0) → -2147483648 ≤ v3 ∧ v3 < 2147483648)
    (k3 : (¬ u0 = 0) → (¬ v3 = 0) → T (d + 1) 148 95 [some (aR 1), some (aI v1), some (aI v2), some (aI v3), some (aI v4), some (aI v5), some (aI v6)] [] (G, c) Q)
    (m4 : (¬ u0 = 0) → (v3 = 0) → TM d 150 [aR 1, aI v4, aI v5, aI v6] (G, c) (fun r h' => T (d + 1) 148 95 [some (aR 1), some (aI v1), some (aI v2), some (aI v3), some (aI v4), some (aI v5), some (aI v6)] (r.toList ++ []) h' Q)) :
    T (d + 1) 148 78 [some (aR 1), some (aI v1), some (aI v2), some (aI v3), some (aI v4), some (aI v5), some (aI v6)] [aI u0] (G, c) Q := by
  refine e_eq1 (t := 98) (show decode (mC 148) 78 = .ok (.ifCond .eq 20, 3) by decide +kernel) (by decide) s0 (fun p1 => ?_) (fun p1 => ?_)
  · refine e_L (L' := [some (aR 1), some (aI v1), some (aI v2), some (aI v3), some (aI v4), some (aI v5), some (aI (v6 + 1))]) (st' := []) (show decode (mC 148) 98 = .ok (.iinc 6 1, 3) by decide +kernel) rfl rfl ?_
    refine e_go (t := 35) (show decode (mC 148) 101 = .ok (.goto (-66), 3) by decide +kernel) (by decide) ?_
    exact (k1 p1)
  · refine e_L (L' := [some (aR 1), some (aI v1), some (aI v2), some (aI v3), some (aI v4), some (aI v5), some (aI v6)]) (st' := [aI v3]) (show decode (mC 148) 81 = .ok (.iload_n 3, 1) by decide +kernel) rfl rfl ?_
    refine e_ne1 (t := 95) (show decode (mC 148) 82 = .ok (.ifCond .ne 13, 3) by decide +kernel) (by decide) (s2 p1) (fun p2 => ?_) (fun p2 => ?_)
    · exact (k3 p1 p2)
    · refine e_L (L' := [some (aR 1), some (aI v1), some (aI v2), some (aI v3), some (aI v4), some (aI v5), some (aI v6)]) (st' := [aR 1]) (show decode (mC 148) 85 = .ok (.aload_n 0, 1) by decide +kernel) rfl (by show (if 1 = 0 then none else some (_, _)) = _; rw [if_neg (by decide)]) ?_
      refine e_L (L' := [some (aR 1), some (aI v1), some (aI v2), some (aI v3), some (aI v4), some (aI v5), some (aI v6)]) (st' := [aI v4, aR 1]) (show decode (mC 148) 86 = .ok (.iload 4, 2) by decide +kernel) rfl rfl ?_
      refine e_L (L' := [some (aR 1), some (aI v1), some (aI v2), some (aI v3), some (aI v4), some (aI v5), some (aI v6)]) (st' := [aI v5, aI v4, aR 1]) (show decode (mC 148) 88 = .ok (.iload 5, 2) by decide +kernel) rfl rfl ?_
      refine e_L (L' := [some (aR 1), some (aI v1), some (aI v2), some (aI v3), some (aI v4), some (aI v5), some (aI v6)]) (st' := [aI v6, aI v5, aI v4, aR 1]) (show decode (mC 148) 90 = .ok (.iload 6, 2) by decide +kernel) rfl rfl ?_
      exact e_V (as := [aR 1, aI v4, aI v5, aI v6]) (rest := []) (show decode (mC 148) 92 = .ok (.invokevirtual 353, 3) by decide +kernel) (by decide +kernel) (show (decide ((4 : Nat) = mA 150) && decide (150 < q_law)) = true by decide +kernel) rfl (show (0 : Nat) ≤ 8 by decide) (show (4 : Nat) ≤ mL 150 by decide +kernel) rfl (sh_ok hG (by decide +kernel)) (m4 p1 p2)
/-- SoulOffice.countWays(II)I, from 95 -/
theorem b148_95 (hG : Shp G) {v1 v2 v3 v4 v5 v6 : Int}
    (k0 : T (d + 1) 148 35 [some (aR 1), some (aI v1), some (aI v2), some (aI (v3 + 1)), some (aI v4), some (aI v5), some (aI (v6 + 1))] [] (G, c) Q) :
    T (d + 1) 148 95 [some (aR 1), some (aI v1), some (aI v2), some (aI v3), some (aI v4), some (aI v5), some (aI v6)] [] (G, c) Q := by
  refine e_L (L' := [some (aR 1), some (aI v1), some (aI v2), some (aI (v3 + 1)), some (aI v4), some (aI v5), some (aI v6)]) (st' := []) (show decode (mC 148) 95 = .ok (.iinc 3 1, 3) by decide +kernel) rfl rfl ?_
  refine e_L (L' := [some (aR 1), some (aI v1), some (aI v2), some (aI (v3 + 1)), some (aI v4), some (aI v5), some (aI (v6 + 1))]) (st' := []) (show decode (mC 148) 98 = .ok (.iinc 6 1, 3) by decide +kernel) rfl rfl ?_
  refine e_go (t := 35) (show decode (mC 148) 101 = .ok (.goto (-66), 3) by decide +kernel) (by decide) ?_
  exact k0
/-- SoulOffice.looksLike(III)Z, from 0 -/
theorem b149_0 (hG : Shp G) {v1 v2 v3 : Int}
    (m0 : TM d 152 [aI v1, aI v2] (G, c) (fun r h' => T (d + 1) 149 12 [some (aR 1), some (aI v1), some (aI v2), some (aI v3), none, none, none] (r.toList ++ [aR 14]) h' Q)) :
    T (d + 1) 149 0 [some (aR 1), some (aI v1), some (aI v2), some (aI v3), none, none, none] [] (G, c) Q := by
  refine e_L (L' := [some (aR 1), some (aI v1), some (aI v2), some (aI v3), none, none, none]) (st' := [aR 1]) (show decode (mC 149) 0 = .ok (.aload_n 0, 1) by decide +kernel) rfl (by show (if 1 = 0 then none else some (_, _)) = _; rw [if_neg (by decide)]) ?_
  refine e_getR (w := 9) (show decode (mC 149) 1 = .ok (.getfield 27, 3) by decide +kernel) (show pl 11 27 = some (0, 11, 1, 0) by decide +kernel) (by decide) (sh_ok hG (by decide +kernel)) (sh_rf hG (by decide +kernel)) ?_
  refine e_getR (w := 14) (show decode (mC 149) 4 = .ok (.getfield 206, 3) by decide +kernel) (show pl 11 206 = some (0, 8, 7, 0) by decide +kernel) (by decide) (sh_ok hG (by decide +kernel)) (sh_rf hG (by decide +kernel)) ?_
  refine e_L (L' := [some (aR 1), some (aI v1), some (aI v2), some (aI v3), none, none, none]) (st' := [aI v1, aR 14]) (show decode (mC 149) 7 = .ok (.iload_n 1, 1) by decide +kernel) rfl rfl ?_
  refine e_L (L' := [some (aR 1), some (aI v1), some (aI v2), some (aI v3), none, none, none]) (st' := [aI v2, aI v1, aR 14]) (show decode (mC 149) 8 = .ok (.iload_n 2, 1) by decide +kernel) rfl rfl ?_
  exact e_S (as := [aI v1, aI v2]) (rest := [aR 14]) (show decode (mC 149) 9 = .ok (.invokestatic 209, 3) by decide +kernel) (by decide +kernel) (show (decide ((2 : Nat) = mA 152) && decide (152 < q_law)) = true by decide +kernel) rfl (show (1 : Nat) ≤ 8 by decide) (show (2 : Nat) ≤ mL 152 by decide +kernel) m0
/-- SoulOffice.looksLike(III)Z, from 12 -/
theorem b149_12 (hG : Shp G) {v1 v2 v3 u1 x1 : Int}
    (s0 : 0 ≤ u1)
    (s1 : u1 < 36)
    (ex1 : c 14 u1 = x1)
    (k3 : T (d + 1) 149 18 [some (aR 1), some (aI v1), some (aI v2), some (aI v3), some (aI x1), some (aI 0), none] [] (G, c) Q) :
    T (d + 1) 149 12 [some (aR 1), some (aI v1), some (aI v2), some (aI v3), none, none, none] [aI u1, aR 14] (G, c) Q := by
  refine e_ialdx (n := 36) (show decode (mC 149) 12 = .ok (.iaload, 1) by decide +kernel) (sh_ok hG (by decide +kernel)) (sh_ln hG (by decide +kernel)) (by decide) s0 s1 ex1 ?_
  refine e_L (L' := [some (aR 1), some (aI v1), some (aI v2), some (aI v3), some (aI x1), none, none]) (st' := []) (show decode (mC 149) 13 = .ok (.istore 4, 2) by decide +kernel) rfl rfl ?_
  refine e_P (st' := [aI 0]) (show decode (mC 149) 15 = .ok (.iconst 0, 1) by decide +kernel) rfl rfl rfl ?_
  refine e_L (L' := [some (aR 1), some (aI v1), some (aI v2), some (aI v3), some (aI x1), some (aI 0), none]) (st' := []) (show decode (mC 149) 16 = .ok (.istore 5, 2) by decide +kernel) rfl rfl ?_
  exact k3
/-- SoulOffice.looksLike(III)Z, from 18 -/
theorem b149_18 (hG : Shp G) {v1 v2 v3 v4 v5 x1 x2 x3 x4 x5 x6 x7 : Int} (hQ : ∀ o o' h', q_eqo o o' → Q o h' → Q o' h')
    (ex1 : c 2 1 = x1)
    (s1 : -2147483648 ≤ v5 ∧ v5 < 2147483648)
    (s2 : -2147483648 ≤ x1 ∧ x1 < 2147483648)
    (z3 : (x1 ≤ v5) → Q (.inl (some (aI 1))) (G, c))
    (s4 : (v5 < x1) → 0 ≤ v1)
    (s5 : (v5 < x1) → v1 < 6)
    (ex2 : c 12 v1 = x2)
    (s7 : (v5 < x1) → -2147483648 ≤ x2 ∧ x2 < 2147483648)
    (s8 : (v5 < x1) → (x2 ≤ v5) → 0 ≤ v5)
    (s9 : (v5 < x1) → (x2 ≤ v5) → v5 < 940)
    (ex3 : c 3 v5 = x3)
    (s11 : (v5 < x1) → (x2 ≤ v5) → -2147483648 ≤ x3 ∧ x3 < 2147483648)
    (k12 : (v5 < x1) → (x2 ≤ v5) → (x3 = 0) → T (d + 1) 149 18 [some (aR 1), some (aI v1), some (aI v2), some (aI v3), some (aI v4), some (aI (v5 + 1)), none] [] (G, c) Q)
    (z13 : (v5 < x1) → (x2 ≤ v5) → (¬ x3 = 0) → Q (.inl (some (aI 0))) (G, c))
    (s14 : (v5 < x1) → (v5 < x2) → -2147483648 ≤ v3 ∧ v3 < 2147483648)
    (s15 : (v5 < x1) → (v5 < x2) → (v5 < v3) → 0 ≤ v5)
    (s16 : (v5 < x1) → (v5 < x2) → (v5 < v3) → v5 < 940)
    (ex4 : c 3 v5 = x4)
    (s18 : (v5 < x1) → (v5 < x2) → (v5 < v3) → -2147483648 ≤ x4 ∧ x4 < 2147483648)
    (k19 : (v5 < x1) → (v5 < x2) → (v5 < v3) → (x4 = 0) → T (d + 1) 149 18 [some (aR 1), some (aI v1), some (aI v2), some (aI v3), some (aI v4), some (aI (v5 + 1)), none] [] (G, c) Q)
    (z20 : (v5 < x1) → (v5 < x2) → (v5 < v3) → (¬ x4 = 0) → Q (.inl (some (aI 0))) (G, c))
    (s21 : (v5 < x1) → (v5 < x2) → (v3 ≤ v5) → 0 ≤ v2)
    (s22 : (v5 < x1) → (v5 < x2) → (v3 ≤ v5) → v2 < 6)
    (ex5 : c 12 v2 = x5)
    (s24 : (v5 < x1) → (v5 < x2) → (v3 ≤ v5) → -2147483648 ≤ (v3 + x5) ∧ (v3 + x5) < 2147483648)
    (s25 : (v5 < x1) → (v5 < x2) → (v3 ≤ v5) → ((v3 + x5) ≤ v5) → 0 ≤ v5)
    (s26 : (v5 < x1) → (v5 < x2) → (v3 ≤ v5) → ((v3 + x5) ≤ v5) → v5 < 940)
    (ex6 : c 3 v5 = x6)
    (s28 : (v5 < x1) → (v5 < x2) → (v3 ≤ v5) → ((v3 + x5) ≤ v5) → -2147483648 ≤ x6 ∧ x6 < 2147483648)
    (k29 : (v5 < x1) → (v5 < x2) → (v3 ≤ v5) → ((v3 + x5) ≤ v5) → (x6 = 0) → T (d + 1) 149 18 [some (aR 1), some (aI v1), some (aI v2), some (aI v3), some (aI v4), some (aI (v5 + 1)), none] [] (G, c) Q)
    (z30 : (v5 < x1) → (v5 < x2) → (v3 ≤ v5) → ((v3 + x5) ≤ v5) → (¬ x6 = 0) → Q (.inl (some (aI 0))) (G, c))
    (s31 : (v5 < x1) → (v5 < x2) → (v3 ≤ v5) → (v5 < (v3 + x5)) → 0 ≤ v5)
    (s32 : (v5 < x1) → (v5 < x2) → (v3 ≤ v5) → (v5 < (v3 + x5)) → v5 < 940)
    (ex7 : c 3 v5 = x7)
    (s34 : (v5 < x1) → (v5 < x2) → (v3 ≤ v5) → (v5 < (v3 + x5)) → -2147483648 ≤ x7 ∧ x7 < 2147483648)
    (s35 : (v5 < x1) → (v5 < x2) → (v3 ≤ v5) → (v5 < (v3 + x5)) → -2147483648 ≤ v4 ∧ v4 < 2147483648)
    (k36 : (v5 < x1) → (v5 < x2) → (v3 ≤ v5) → (v5 < (v3 + x5)) → (x7 = v4) → T (d + 1) 149 18 [some (aR 1), some (aI v1), some (aI v2), some (aI v3), some (aI v4), some (aI (v5 + 1)), none] [] (G, c) Q)
    (z37 : (v5 < x1) → (v5 < x2) → (v3 ≤ v5) → (v5 < (v3 + x5)) → (¬ x7 = v4) → Q (.inl (some (aI 0))) (G, c)) :
    T (d + 1) 149 18 [some (aR 1), some (aI v1), some (aI v2), some (aI v3), some (aI v4), some (aI v5), none] [] (G, c) Q := by
  refine e_L (L' := [some (aR 1), some (aI v1), some (aI v2), some (aI v3), some (aI v4), some (aI v5), none]) (st' := [aI v5]) (show decode (mC 149) 18 = .ok (.iload 5, 2) by decide +kernel) rfl rfl ?_
  refine e_L (L' := [some (aR 1), some (aI v1), some (aI v2), some (aI v3), some (aI v4), some (aI v5), none]) (st' := [aR 1, aI v5]) (show decode (mC 149) 20 = .ok (.aload_n 0, 1) by decide +kernel) rfl (by show (if 1 = 0 then none else some (_, _)) = _; rw [if_neg (by decide)]) ?_
  refine e_getR (w := 2) (show decode (mC 149) 21 = .ok (.getfield 21, 3) by decide +kernel) (show pl 11 21 = some (0, 11, 0, 0) by decide +kernel) (by decide) (sh_ok hG (by decide +kernel)) (sh_rf hG (by decide +kernel)) ?_
  refine e_getIx (show decode (mC 149) 24 = .ok (.getfield 108, 3) by decide +kernel) (show pl 11 108 = some (0, 10, 1, 0) by decide +kernel) (by decide) (sh_ok hG (by decide +kernel)) ex1 ?_
  refine e_ge2 (t := 105) (show decode (mC 149) 27 = .ok (.if_icmp .ge 78, 3) by decide +kernel) (by decide) s1 s2 (fun p1 => ?_) (fun p1 => ?_)
  · refine e_P (st' := [aI 1]) (show decode (mC 149) 105 = .ok (.iconst 1, 1) by decide +kernel) rfl rfl rfl ?_
    exact e_zret (show decode (mC 149) 106 = .ok (.ireturn, 1) by decide +kernel) rfl (by decide) (z3 p1)
  · refine e_L (L' := [some (aR 1), some (aI v1), some (aI v2), some (aI v3), some (aI v4), some (aI v5), none]) (st' := [aI v5]) (show decode (mC 149) 30 = .ok (.iload 5, 2) by decide +kernel) rfl rfl ?_
    refine e_L (L' := [some (aR 1), some (aI v1), some (aI v2), some (aI v3), some (aI v4), some (aI v5), none]) (st' := [aR 1, aI v5]) (show decode (mC 149) 32 = .ok (.aload_n 0, 1) by decide +kernel) rfl (by show (if 1 = 0 then none else some (_, _)) = _; rw [if_neg (by decide)]) ?_
    refine e_getR (w := 9) (show decode (mC 149) 33 = .ok (.getfield 27, 3) by decide +kernel) (show pl 11 27 = some (0, 11, 1, 0) by decide +kernel) (by decide) (sh_ok hG (by decide +kernel)) (sh_rf hG (by decide +kernel)) ?_
    refine e_getR (w := 12) (show decode (mC 149) 36 = .ok (.getfield 194, 3) by decide +kernel) (show pl 11 194 = some (0, 8, 5, 0) by decide +kernel) (by decide) (sh_ok hG (by decide +kernel)) (sh_rf hG (by decide +kernel)) ?_
    refine e_L (L' := [some (aR 1), some (aI v1), some (aI v2), some (aI v3), some (aI v4), some (aI v5), none]) (st' := [aI v1, aR 12, aI v5]) (show decode (mC 149) 39 = .ok (.iload_n 1, 1) by decide +kernel) rfl rfl ?_
    refine e_ialdx (n := 6) (show decode (mC 149) 40 = .ok (.iaload, 1) by decide +kernel) (sh_ok hG (by decide +kernel)) (sh_ln hG (by decide +kernel)) (by decide) (s4 p1) (s5 p1) ex2 ?_
    refine e_ge2 (t := 70) (show decode (mC 149) 41 = .ok (.if_icmp .ge 29, 3) by decide +kernel) (by decide) s1 (s7 p1) (fun p2 => ?_) (fun p2 => ?_)
    · refine e_P (st' := [aI 0]) (show decode (mC 149) 70 = .ok (.iconst 0, 1) by decide +kernel) rfl rfl rfl ?_
      refine e_L (L' := [some (aR 1), some (aI v1), some (aI v2), some (aI v3), some (aI v4), some (aI v5), some (aI 0)]) (st' := []) (show decode (mC 149) 71 = .ok (.istore 6, 2) by decide +kernel) rfl rfl ?_
      refine e_L (L' := [some (aR 1), some (aI v1), some (aI v2), some (aI v3), some (aI v4), some (aI v5), some (aI 0)]) (st' := [aR 1]) (show decode (mC 149) 73 = .ok (.aload_n 0, 1) by decide +kernel) rfl (by show (if 1 = 0 then none else some (_, _)) = _; rw [if_neg (by decide)]) ?_
      refine e_getR (w := 2) (show decode (mC 149) 74 = .ok (.getfield 21, 3) by decide +kernel) (show pl 11 21 = some (0, 11, 0, 0) by decide +kernel) (by decide) (sh_ok hG (by decide +kernel)) (sh_rf hG (by decide +kernel)) ?_
      refine e_getR (w := 3) (show decode (mC 149) 77 = .ok (.getfield 357, 3) by decide +kernel) (show pl 11 357 = some (0, 10, 0, 0) by decide +kernel) (by decide) (sh_ok hG (by decide +kernel)) (sh_rf hG (by decide +kernel)) ?_
      refine e_L (L' := [some (aR 1), some (aI v1), some (aI v2), some (aI v3), some (aI v4), some (aI v5), some (aI 0)]) (st' := [aI v5, aR 3]) (show decode (mC 149) 80 = .ok (.iload 5, 2) by decide +kernel) rfl rfl ?_
      refine e_ialdx (n := 940) (show decode (mC 149) 82 = .ok (.iaload, 1) by decide +kernel) (sh_ok hG (by decide +kernel)) (sh_ln hG (by decide +kernel)) (by decide) (s8 p1 p2) (s9 p1 p2) ex3 ?_
      refine e_L (L' := [some (aR 1), some (aI v1), some (aI v2), some (aI v3), some (aI v4), some (aI v5), some (aI 0)]) (st' := [aI 0, aI x3]) (show decode (mC 149) 83 = .ok (.iload 6, 2) by decide +kernel) rfl rfl ?_
      refine e_eq1 (t := 93) (show decode (mC 149) 85 = .ok (.ifCond .eq 8, 3) by decide +kernel) (by decide) (by decide) (fun _ => ?_) (fun h => absurd h (by decide))
      refine e_P (st' := [aI 0, aI x3]) (show decode (mC 149) 93 = .ok (.iconst 0, 1) by decide +kernel) rfl rfl rfl ?_
      refine e_eq2 (t := 99) (show decode (mC 149) 94 = .ok (.if_icmp .eq 5, 3) by decide +kernel) (by decide) (s11 p1 p2) (by decide) (fun p3 => ?_) (fun p3 => ?_)
      · refine e_L (L' := [some (aR 1), some (aI v1), some (aI v2), some (aI v3), some (aI v4), some (aI (v5 + 1)), some (aI 0)]) (st' := []) (show decode (mC 149) 99 = .ok (.iinc 5 1, 3) by decide +kernel) rfl rfl ?_
        refine e_go (t := 18) (show decode (mC 149) 102 = .ok (.goto (-84), 3) by decide +kernel) (by decide) ?_
        exact T_le hQ (leS (leS (leS (leS (leS (leS (leN leE))))))) (k12 p1 p2 p3)
      · refine e_P (st' := [aI 0]) (show decode (mC 149) 97 = .ok (.iconst 0, 1) by decide +kernel) rfl rfl rfl ?_
        exact e_zret (show decode (mC 149) 98 = .ok (.ireturn, 1) by decide +kernel) rfl (by decide) (z13 p1 p2 p3)
    · refine e_L (L' := [some (aR 1), some (aI v1), some (aI v2), some (aI v3), some (aI v4), some (aI v5), none]) (st' := [aI v5]) (show decode (mC 149) 44 = .ok (.iload 5, 2) by decide +kernel) rfl rfl ?_
      refine e_L (L' := [some (aR 1), some (aI v1), some (aI v2), some (aI v3), some (aI v4), some (aI v5), none]) (st' := [aI v3, aI v5]) (show decode (mC 149) 46 = .ok (.iload_n 3, 1) by decide +kernel) rfl rfl ?_
      refine e_lt2 (t := 70) (show decode (mC 149) 47 = .ok (.if_icmp .lt 23, 3) by decide +kernel) (by decide) s1 (s14 p1 p2) (fun p3 => ?_) (fun p3 => ?_)
      · refine e_P (st' := [aI 0]) (show decode (mC 149) 70 = .ok (.iconst 0, 1) by decide +kernel) rfl rfl rfl ?_
        refine e_L (L' := [some (aR 1), some (aI v1), some (aI v2), some (aI v3), some (aI v4), some (aI v5), some (aI 0)]) (st' := []) (show decode (mC 149) 71 = .ok (.istore 6, 2) by decide +kernel) rfl rfl ?_
        refine e_L (L' := [some (aR 1), some (aI v1), some (aI v2), some (aI v3), some (aI v4), some (aI v5), some (aI 0)]) (st' := [aR 1]) (show decode (mC 149) 73 = .ok (.aload_n 0, 1) by decide +kernel) rfl (by show (if 1 = 0 then none else some (_, _)) = _; rw [if_neg (by decide)]) ?_
        refine e_getR (w := 2) (show decode (mC 149) 74 = .ok (.getfield 21, 3) by decide +kernel) (show pl 11 21 = some (0, 11, 0, 0) by decide +kernel) (by decide) (sh_ok hG (by decide +kernel)) (sh_rf hG (by decide +kernel)) ?_
        refine e_getR (w := 3) (show decode (mC 149) 77 = .ok (.getfield 357, 3) by decide +kernel) (show pl 11 357 = some (0, 10, 0, 0) by decide +kernel) (by decide) (sh_ok hG (by decide +kernel)) (sh_rf hG (by decide +kernel)) ?_
        refine e_L (L' := [some (aR 1), some (aI v1), some (aI v2), some (aI v3), some (aI v4), some (aI v5), some (aI 0)]) (st' := [aI v5, aR 3]) (show decode (mC 149) 80 = .ok (.iload 5, 2) by decide +kernel) rfl rfl ?_
        refine e_ialdx (n := 940) (show decode (mC 149) 82 = .ok (.iaload, 1) by decide +kernel) (sh_ok hG (by decide +kernel)) (sh_ln hG (by decide +kernel)) (by decide) (s15 p1 p2 p3) (s16 p1 p2 p3) ex4 ?_
        refine e_L (L' := [some (aR 1), some (aI v1), some (aI v2), some (aI v3), some (aI v4), some (aI v5), some (aI 0)]) (st' := [aI 0, aI x4]) (show decode (mC 149) 83 = .ok (.iload 6, 2) by decide +kernel) rfl rfl ?_
        refine e_eq1 (t := 93) (show decode (mC 149) 85 = .ok (.ifCond .eq 8, 3) by decide +kernel) (by decide) (by decide) (fun _ => ?_) (fun h => absurd h (by decide))
        refine e_P (st' := [aI 0, aI x4]) (show decode (mC 149) 93 = .ok (.iconst 0, 1) by decide +kernel) rfl rfl rfl ?_
        refine e_eq2 (t := 99) (show decode (mC 149) 94 = .ok (.if_icmp .eq 5, 3) by decide +kernel) (by decide) (s18 p1 p2 p3) (by decide) (fun p4 => ?_) (fun p4 => ?_)
        · refine e_L (L' := [some (aR 1), some (aI v1), some (aI v2), some (aI v3), some (aI v4), some (aI (v5 + 1)), some (aI 0)]) (st' := []) (show decode (mC 149) 99 = .ok (.iinc 5 1, 3) by decide +kernel) rfl rfl ?_
          refine e_go (t := 18) (show decode (mC 149) 102 = .ok (.goto (-84), 3) by decide +kernel) (by decide) ?_
          exact T_le hQ (leS (leS (leS (leS (leS (leS (leN leE))))))) (k19 p1 p2 p3 p4)
        · refine e_P (st' := [aI 0]) (show decode (mC 149) 97 = .ok (.iconst 0, 1) by decide +kernel) rfl rfl rfl ?_
          exact e_zret (show decode (mC 149) 98 = .ok (.ireturn, 1) by decide +kernel) rfl (by decide) (z20 p1 p2 p3 p4)
      · refine e_L (L' := [some (aR 1), some (aI v1), some (aI v2), some (aI v3), some (aI v4), some (aI v5), none]) (st' := [aI v5]) (show decode (mC 149) 50 = .ok (.iload 5, 2) by decide +kernel) rfl rfl ?_
        refine e_L (L' := [some (aR 1), some (aI v1), some (aI v2), some (aI v3), some (aI v4), some (aI v5), none]) (st' := [aI v3, aI v5]) (show decode (mC 149) 52 = .ok (.iload_n 3, 1) by decide +kernel) rfl rfl ?_
        refine e_L (L' := [some (aR 1), some (aI v1), some (aI v2), some (aI v3), some (aI v4), some (aI v5), none]) (st' := [aR 1, aI v3, aI v5]) (show decode (mC 149) 53 = .ok (.aload_n 0, 1) by decide +kernel) rfl (by show (if 1 = 0 then none else some (_, _)) = _; rw [if_neg (by decide)]) ?_
        refine e_getR (w := 9) (show decode (mC 149) 54 = .ok (.getfield 27, 3) by decide +kernel) (show pl 11 27 = some (0, 11, 1, 0) by decide +kernel) (by decide) (sh_ok hG (by decide +kernel)) (sh_rf hG (by decide +kernel)) ?_
        refine e_getR (w := 12) (show decode (mC 149) 57 = .ok (.getfield 194, 3) by decide +kernel) (show pl 11 194 = some (0, 8, 5, 0) by decide +kernel) (by decide) (sh_ok hG (by decide +kernel)) (sh_rf hG (by decide +kernel)) ?_
        refine e_L (L' := [some (aR 1), some (aI v1), some (aI v2), some (aI v3), some (aI v4), some (aI v5), none]) (st' := [aI v2, aR 12, aI v3, aI v5]) (show decode (mC 149) 60 = .ok (.iload_n 2, 1) by decide +kernel) rfl rfl ?_
        refine e_ialdx (n := 6) (show decode (mC 149) 61 = .ok (.iaload, 1) by decide +kernel) (sh_ok hG (by decide +kernel)) (sh_ln hG (by decide +kernel)) (by decide) (s21 p1 p2 p3) (s22 p1 p2 p3) ex5 ?_
        refine e_P (st' := [aI (v3 + x5), aI v5]) (show decode (mC 149) 62 = .ok (.iadd, 1) by decide +kernel) rfl rfl rfl ?_
        refine e_ge2 (t := 70) (show decode (mC 149) 63 = .ok (.if_icmp .ge 7, 3) by decide +kernel) (by decide) s1 (s24 p1 p2 p3) (fun p4 => ?_) (fun p4 => ?_)
        · refine e_P (st' := [aI 0]) (show decode (mC 149) 70 = .ok (.iconst 0, 1) by decide +kernel) rfl rfl rfl ?_
          refine e_L (L' := [some (aR 1), some (aI v1), some (aI v2), some (aI v3), some (aI v4), some (aI v5), some (aI 0)]) (st' := []) (show decode (mC 149) 71 = .ok (.istore 6, 2) by decide +kernel) rfl rfl ?_
          refine e_L (L' := [some (aR 1), some (aI v1), some (aI v2), some (aI v3), some (aI v4), some (aI v5), some (aI 0)]) (st' := [aR 1]) (show decode (mC 149) 73 = .ok (.aload_n 0, 1) by decide +kernel) rfl (by show (if 1 = 0 then none else some (_, _)) = _; rw [if_neg (by decide)]) ?_
          refine e_getR (w := 2) (show decode (mC 149) 74 = .ok (.getfield 21, 3) by decide +kernel) (show pl 11 21 = some (0, 11, 0, 0) by decide +kernel) (by decide) (sh_ok hG (by decide +kernel)) (sh_rf hG (by decide +kernel)) ?_
          refine e_getR (w := 3) (show decode (mC 149) 77 = .ok (.getfield 357, 3) by decide +kernel) (show pl 11 357 = some (0, 10, 0, 0) by decide +kernel) (by decide) (sh_ok hG (by decide +kernel)) (sh_rf hG (by decide +kernel)) ?_
          refine e_L (L' := [some (aR 1), some (aI v1), some (aI v2), some (aI v3), some (aI v4), some (aI v5), some (aI 0)]) (st' := [aI v5, aR 3]) (show decode (mC 149) 80 = .ok (.iload 5, 2) by decide +kernel) rfl rfl ?_
          refine e_ialdx (n := 940) (show decode (mC 149) 82 = .ok (.iaload, 1) by decide +kernel) (sh_ok hG (by decide +kernel)) (sh_ln hG (by decide +kernel)) (by decide) (s25 p1 p2 p3 p4) (s26 p1 p2 p3 p4) ex6 ?_
          refine e_L (L' := [some (aR 1), some (aI v1), some (aI v2), some (aI v3), some (aI v4), some (aI v5), some (aI 0)]) (st' := [aI 0, aI x6]) (show decode (mC 149) 83 = .ok (.iload 6, 2) by decide +kernel) rfl rfl ?_
          refine e_eq1 (t := 93) (show decode (mC 149) 85 = .ok (.ifCond .eq 8, 3) by decide +kernel) (by decide) (by decide) (fun _ => ?_) (fun h => absurd h (by decide))
          refine e_P (st' := [aI 0, aI x6]) (show decode (mC 149) 93 = .ok (.iconst 0, 1) by decide +kernel) rfl rfl rfl ?_
          refine e_eq2 (t := 99) (show decode (mC 149) 94 = .ok (.if_icmp .eq 5, 3) by decide +kernel) (by decide) (s28 p1 p2 p3 p4) (by decide) (fun p5 => ?_) (fun p5 => ?_)
          · refine e_L (L' := [some (aR 1), some (aI v1), some (aI v2), some (aI v3), some (aI v4), some (aI (v5 + 1)), some (aI 0)]) (st' := []) (show decode (mC 149) 99 = .ok (.iinc 5 1, 3) by decide +kernel) rfl rfl ?_
            refine e_go (t := 18) (show decode (mC 149) 102 = .ok (.goto (-84), 3) by decide +kernel) (by decide) ?_
            exact T_le hQ (leS (leS (leS (leS (leS (leS (leN leE))))))) (k29 p1 p2 p3 p4 p5)
          · refine e_P (st' := [aI 0]) (show decode (mC 149) 97 = .ok (.iconst 0, 1) by decide +kernel) rfl rfl rfl ?_
            exact e_zret (show decode (mC 149) 98 = .ok (.ireturn, 1) by decide +kernel) rfl (by decide) (z30 p1 p2 p3 p4 p5)
        · refine e_P (st' := [aI 1]) (show decode (mC 149) 66 = .ok (.iconst 1, 1) by decide +kernel) rfl rfl rfl ?_
          refine e_go (t := 71) (show decode (mC 149) 67 = .ok (.goto 4, 3) by decide +kernel) (by decide) ?_
          refine e_L (L' := [some (aR 1), some (aI v1), some (aI v2), some (aI v3), some (aI v4), some (aI v5), some (aI 1)]) (st' := []) (show decode (mC 149) 71 = .ok (.istore 6, 2) by decide +kernel) rfl rfl ?_
          refine e_L (L' := [some (aR 1), some (aI v1), some (aI v2), some (aI v3), some (aI v4), some (aI v5), some (aI 1)]) (st' := [aR 1]) (show decode (mC 149) 73 = .ok (.aload_n 0, 1) by decide +kernel) rfl (by show (if 1 = 0 then none else some (_, _)) = _; rw [if_neg (by decide)]) ?_
          refine e_getR (w := 2) (show decode (mC 149) 74 = .ok (.getfield 21, 3) by decide +kernel) (show pl 11 21 = some (0, 11, 0, 0) by decide +kernel) (by decide) (sh_ok hG (by decide +kernel)) (sh_rf hG (by decide +kernel)) ?_
          refine e_getR (w := 3) (show decode (mC 149) 77 = .ok (.getfield 357, 3) by decide +kernel) (show pl 11 357 = some (0, 10, 0, 0) by decide +kernel) (by decide) (sh_ok hG (by decide +kernel)) (sh_rf hG (by decide +kernel)) ?_
          refine e_L (L' := [some (aR 1), some (aI v1), some (aI v2), some (aI v3), some (aI v4), some (aI v5), some (aI 1)]) (st' := [aI v5, aR 3]) (show decode (mC 149) 80 = .ok (.iload 5, 2) by decide +kernel) rfl rfl ?_
          refine e_ialdx (n := 940) (show decode (mC 149) 82 = .ok (.iaload, 1) by decide +kernel) (sh_ok hG (by decide +kernel)) (sh_ln hG (by decide +kernel)) (by decide) (s31 p1 p2 p3 p4) (s32 p1 p2 p3 p4) ex7 ?_
          refine e_L (L' := [some (aR 1), some (aI v1), some (aI v2), some (aI v3), some (aI v4), some (aI v5), some (aI 1)]) (st' := [aI 1, aI x7]) (show decode (mC 149) 83 = .ok (.iload 6, 2) by decide +kernel) rfl rfl ?_
          refine e_eq1 (t := 93) (show decode (mC 149) 85 = .ok (.ifCond .eq 8, 3) by decide +kernel) (by decide) (by decide) (fun h => absurd h (by decide)) (fun _ => ?_)
          refine e_L (L' := [some (aR 1), some (aI v1), some (aI v2), some (aI v3), some (aI v4), some (aI v5), some (aI 1)]) (st' := [aI v4, aI x7]) (show decode (mC 149) 88 = .ok (.iload 4, 2) by decide +kernel) rfl rfl ?_
          refine e_go (t := 94) (show decode (mC 149) 90 = .ok (.goto 4, 3) by decide +kernel) (by decide) ?_
          refine e_eq2 (t := 99) (show decode (mC 149) 94 = .ok (.if_icmp .eq 5, 3) by decide +kernel) (by decide) (s34 p1 p2 p3 p4) (s35 p1 p2 p3 p4) (fun p5 => ?_) (fun p5 => ?_)
          · refine e_L (L' := [some (aR 1), some (aI v1), some (aI v2), some (aI v3), some (aI v4), some (aI (v5 + 1)), some (aI 1)]) (st' := []) (show decode (mC 149) 99 = .ok (.iinc 5 1, 3) by decide +kernel) rfl rfl ?_
            refine e_go (t := 18) (show decode (mC 149) 102 = .ok (.goto (-84), 3) by decide +kernel) (by decide) ?_
            exact T_le hQ (leS (leS (leS (leS (leS (leS (leN leE))))))) (k36 p1 p2 p3 p4 p5)
          · refine e_P (st' := [aI 0]) (show decode (mC 149) 97 = .ok (.iconst 0, 1) by decide +kernel) rfl rfl rfl ?_
            exact e_zret (show decode (mC 149) 98 = .ok (.ireturn, 1) by decide +kernel) rfl (by decide) (z37 p1 p2 p3 p4 p5)
/-- SoulOffice.keepFirstWay(III)V, from 0 -/
theorem b150_0 (hG : Shp G) {v1 v2 v3 : Int}
    (z0 : Q (.inl none) (G, (q_up (q_up (q_up c 187 0 v1) 187 1 v2) 187 2 v3))) :
    T d 150 0 [some (aR 1), some (aI v1), some (aI v2), some (aI v3)] [] (G, c) Q := by
  refine e_L (L' := [some (aR 1), some (aI v1), some (aI v2), some (aI v3)]) (st' := [aR 1]) (show decode (mC 150) 0 = .ok (.aload_n 0, 1) by decide +kernel) rfl (by show (if 1 = 0 then none else some (_, _)) = _; rw [if_neg (by decide)]) ?_
  refine e_getR (w := 187) (show decode (mC 150) 1 = .ok (.getfield 104, 3) by decide +kernel) (show pl 11 104 = some (0, 11, 14, 0) by decide +kernel) (by decide) (sh_ok hG (by decide +kernel)) (sh_rf hG (by decide +kernel)) ?_
  refine e_P (st' := [aI 0, aR 187]) (show decode (mC 150) 4 = .ok (.iconst 0, 1) by decide +kernel) rfl rfl rfl ?_
  refine e_L (L' := [some (aR 1), some (aI v1), some (aI v2), some (aI v3)]) (st' := [aI v1, aI 0, aR 187]) (show decode (mC 150) 5 = .ok (.iload_n 1, 1) by decide +kernel) rfl rfl ?_
  refine e_iast (n := 3) (show decode (mC 150) 6 = .ok (.iastore, 1) by decide +kernel) (sh_ok hG (by decide +kernel)) (sh_ln hG (by decide +kernel)) (by decide) (by decide) (by decide) ?_
  refine e_L (L' := [some (aR 1), some (aI v1), some (aI v2), some (aI v3)]) (st' := [aR 1]) (show decode (mC 150) 7 = .ok (.aload_n 0, 1) by decide +kernel) rfl (by show (if 1 = 0 then none else some (_, _)) = _; rw [if_neg (by decide)]) ?_
  refine e_getR (w := 187) (show decode (mC 150) 8 = .ok (.getfield 104, 3) by decide +kernel) (show pl 11 104 = some (0, 11, 14, 0) by decide +kernel) (by decide) (sh_ok hG (by decide +kernel)) (sh_rf hG (by decide +kernel)) ?_
  refine e_P (st' := [aI 1, aR 187]) (show decode (mC 150) 11 = .ok (.iconst 1, 1) by decide +kernel) rfl rfl rfl ?_
  refine e_L (L' := [some (aR 1), some (aI v1), some (aI v2), some (aI v3)]) (st' := [aI v2, aI 1, aR 187]) (show decode (mC 150) 12 = .ok (.iload_n 2, 1) by decide +kernel) rfl rfl ?_
  refine e_iast (n := 3) (show decode (mC 150) 13 = .ok (.iastore, 1) by decide +kernel) (sh_ok hG (by decide +kernel)) (sh_ln hG (by decide +kernel)) (by decide) (by decide) (by decide) ?_
  refine e_L (L' := [some (aR 1), some (aI v1), some (aI v2), some (aI v3)]) (st' := [aR 1]) (show decode (mC 150) 14 = .ok (.aload_n 0, 1) by decide +kernel) rfl (by show (if 1 = 0 then none else some (_, _)) = _; rw [if_neg (by decide)]) ?_
  refine e_getR (w := 187) (show decode (mC 150) 15 = .ok (.getfield 104, 3) by decide +kernel) (show pl 11 104 = some (0, 11, 14, 0) by decide +kernel) (by decide) (sh_ok hG (by decide +kernel)) (sh_rf hG (by decide +kernel)) ?_
  refine e_P (st' := [aI 2, aR 187]) (show decode (mC 150) 18 = .ok (.iconst 2, 1) by decide +kernel) rfl rfl rfl ?_
  refine e_L (L' := [some (aR 1), some (aI v1), some (aI v2), some (aI v3)]) (st' := [aI v3, aI 2, aR 187]) (show decode (mC 150) 19 = .ok (.iload_n 3, 1) by decide +kernel) rfl rfl ?_
  refine e_iast (n := 3) (show decode (mC 150) 20 = .ok (.iastore, 1) by decide +kernel) (sh_ok hG (by decide +kernel)) (sh_ln hG (by decide +kernel)) (by decide) (by decide) (by decide) ?_
  exact e_vret (show decode (mC 150) 21 = .ok (.return_, 1) by decide +kernel) rfl z0
/-- SoulOffice.soulPair(II)I, from 0 -/
theorem b151_0 (hG : Shp G) {v0 v1 : Int}
    (z0 : Q (.inl (some (aI ((v0 * 8) + v1)))) (G, c)) :
    T d 151 0 [some (aI v0), some (aI v1)] [] (G, c) Q := by
  refine e_L (L' := [some (aI v0), some (aI v1)]) (st' := [aI v0]) (show decode (mC 151) 0 = .ok (.iload_n 0, 1) by decide +kernel) rfl rfl ?_
  refine e_P (st' := [aI 8, aI v0]) (show decode (mC 151) 1 = .ok (.bipush 8, 2) by decide +kernel) rfl rfl rfl ?_
  refine e_P (st' := [aI (v0 * 8)]) (show decode (mC 151) 3 = .ok (.imul, 1) by decide +kernel) rfl rfl rfl ?_
  refine e_L (L' := [some (aI v0), some (aI v1)]) (st' := [aI v1, aI (v0 * 8)]) (show decode (mC 151) 4 = .ok (.iload_n 1, 1) by decide +kernel) rfl rfl ?_
  refine e_P (st' := [aI ((v0 * 8) + v1)]) (show decode (mC 151) 5 = .ok (.iadd, 1) by decide +kernel) rfl rfl rfl ?_
  exact e_iret (show decode (mC 151) 6 = .ok (.ireturn, 1) by decide +kernel) rfl z0
/-- SoulOffice.kindPair(II)I, from 0 -/
theorem b152_0 (hG : Shp G) {v0 v1 : Int}
    (z0 : Q (.inl (some (aI ((v0 * 6) + v1)))) (G, c)) :
    T d 152 0 [some (aI v0), some (aI v1)] [] (G, c) Q := by
  refine e_L (L' := [some (aI v0), some (aI v1)]) (st' := [aI v0]) (show decode (mC 152) 0 = .ok (.iload_n 0, 1) by decide +kernel) rfl rfl ?_
  refine e_P (st' := [aI 6, aI v0]) (show decode (mC 152) 1 = .ok (.bipush 6, 2) by decide +kernel) rfl rfl rfl ?_
  refine e_P (st' := [aI (v0 * 6)]) (show decode (mC 152) 3 = .ok (.imul, 1) by decide +kernel) rfl rfl rfl ?_
  refine e_L (L' := [some (aI v0), some (aI v1)]) (st' := [aI v1, aI (v0 * 6)]) (show decode (mC 152) 4 = .ok (.iload_n 1, 1) by decide +kernel) rfl rfl ?_
  refine e_P (st' := [aI ((v0 * 6) + v1)]) (show decode (mC 152) 5 = .ok (.iadd, 1) by decide +kernel) rfl rfl rfl ?_
  exact e_iret (show decode (mC 152) 6 = .ok (.ireturn, 1) by decide +kernel) rfl z0
/-- SoulOffice.isSmallLetter(I)Z, from 0 -/
theorem b153_0 (hG : Shp G) {v0 : Int}
    (s0 : -2147483648 ≤ v0 ∧ v0 < 2147483648)
    (z1 : (v0 < 97) → Q (.inl (some (aI 0))) (G, c))
    (z2 : (97 ≤ v0) → (122 < v0) → Q (.inl (some (aI 0))) (G, c))
    (z3 : (97 ≤ v0) → (v0 ≤ 122) → Q (.inl (some (aI 1))) (G, c)) :
    T d 153 0 [some (aI v0)] [] (G, c) Q := by
  refine e_L (L' := [some (aI v0)]) (st' := [aI v0]) (show decode (mC 153) 0 = .ok (.iload_n 0, 1) by decide +kernel) rfl rfl ?_
  refine e_P (st' := [aI 97, aI v0]) (show decode (mC 153) 1 = .ok (.bipush 97, 2) by decide +kernel) rfl rfl rfl ?_
  refine e_lt2 (t := 16) (show decode (mC 153) 3 = .ok (.if_icmp .lt 13, 3) by decide +kernel) (by decide) s0 (by decide) (fun p1 => ?_) (fun p1 => ?_)
  · refine e_P (st' := [aI 0]) (show decode (mC 153) 16 = .ok (.iconst 0, 1) by decide +kernel) rfl rfl rfl ?_
    exact e_zret (show decode (mC 153) 17 = .ok (.ireturn, 1) by decide +kernel) rfl (by decide) (z1 p1)
  · refine e_L (L' := [some (aI v0)]) (st' := [aI v0]) (show decode (mC 153) 6 = .ok (.iload_n 0, 1) by decide +kernel) rfl rfl ?_
    refine e_P (st' := [aI 122, aI v0]) (show decode (mC 153) 7 = .ok (.bipush 122, 2) by decide +kernel) rfl rfl rfl ?_
    refine e_gt2 (t := 16) (show decode (mC 153) 9 = .ok (.if_icmp .gt 7, 3) by decide +kernel) (by decide) s0 (by decide) (fun p2 => ?_) (fun p2 => ?_)
    · refine e_P (st' := [aI 0]) (show decode (mC 153) 16 = .ok (.iconst 0, 1) by decide +kernel) rfl rfl rfl ?_
      exact e_zret (show decode (mC 153) 17 = .ok (.ireturn, 1) by decide +kernel) rfl (by decide) (z2 p1 p2)
    · refine e_P (st' := [aI 1]) (show decode (mC 153) 12 = .ok (.iconst 1, 1) by decide +kernel) rfl rfl rfl ?_
      refine e_go (t := 17) (show decode (mC 153) 13 = .ok (.goto 4, 3) by decide +kernel) (by decide) ?_
      exact e_zret (show decode (mC 153) 17 = .ok (.ireturn, 1) by decide +kernel) rfl (by decide) (z3 p1 p2)
/-- SoulOffice.isDigit(I)Z, from 0 -/
theorem b154_0 (hG : Shp G) {v0 : Int}
    (s0 : -2147483648 ≤ v0 ∧ v0 < 2147483648)
    (z1 : (v0 < 48) → Q (.inl (some (aI 0))) (G, c))
    (z2 : (48 ≤ v0) → (57 < v0) → Q (.inl (some (aI 0))) (G, c))
    (z3 : (48 ≤ v0) → (v0 ≤ 57) → Q (.inl (some (aI 1))) (G, c)) :
    T d 154 0 [some (aI v0)] [] (G, c) Q := by
  refine e_L (L' := [some (aI v0)]) (st' := [aI v0]) (show decode (mC 154) 0 = .ok (.iload_n 0, 1) by decide +kernel) rfl rfl ?_
  refine e_P (st' := [aI 48, aI v0]) (show decode (mC 154) 1 = .ok (.bipush 48, 2) by decide +kernel) rfl rfl rfl ?_
  refine e_lt2 (t := 16) (show decode (mC 154) 3 = .ok (.if_icmp .lt 13, 3) by decide +kernel) (by decide) s0 (by decide) (fun p1 => ?_) (fun p1 => ?_)
  · refine e_P (st' := [aI 0]) (show decode (mC 154) 16 = .ok (.iconst 0, 1) by decide +kernel) rfl rfl rfl ?_
    exact e_zret (show decode (mC 154) 17 = .ok (.ireturn, 1) by decide +kernel) rfl (by decide) (z1 p1)
  · refine e_L (L' := [some (aI v0)]) (st' := [aI v0]) (show decode (mC 154) 6 = .ok (.iload_n 0, 1) by decide +kernel) rfl rfl ?_
    refine e_P (st' := [aI 57, aI v0]) (show decode (mC 154) 7 = .ok (.bipush 57, 2) by decide +kernel) rfl rfl rfl ?_
    refine e_gt2 (t := 16) (show decode (mC 154) 9 = .ok (.if_icmp .gt 7, 3) by decide +kernel) (by decide) s0 (by decide) (fun p2 => ?_) (fun p2 => ?_)
    · refine e_P (st' := [aI 0]) (show decode (mC 154) 16 = .ok (.iconst 0, 1) by decide +kernel) rfl rfl rfl ?_
      exact e_zret (show decode (mC 154) 17 = .ok (.ireturn, 1) by decide +kernel) rfl (by decide) (z2 p1 p2)
    · refine e_P (st' := [aI 1]) (show decode (mC 154) 12 = .ok (.iconst 1, 1) by decide +kernel) rfl rfl rfl ?_
      refine e_go (t := 17) (show decode (mC 154) 13 = .ok (.goto 4, 3) by decide +kernel) (by decide) ?_
      exact e_zret (show decode (mC 154) 17 = .ok (.ireturn, 1) by decide +kernel) rfl (by decide) (z3 p1 p2)
/-- SoulOffice.isSignByte(I)Z, from 0 -/
theorem b155_0 (hG : Shp G) {v0 : Int}
    (s0 : -2147483648 ≤ v0 ∧ v0 < 2147483648)
    (z1 : (v0 = 59) → Q (.inl (some (aI 1))) (G, c))
    (z2 : (¬ v0 = 59) → (v0 = 60) → Q (.inl (some (aI 1))) (G, c))
    (z3 : (¬ v0 = 59) → (¬ v0 = 60) → (v0 = 61) → Q (.inl (some (aI 1))) (G, c))
    (z4 : (¬ v0 = 59) → (¬ v0 = 60) → (¬ v0 = 61) → (v0 = 62) → Q (.inl (some (aI 1))) (G, c))
    (z5 : (¬ v0 = 59) → (¬ v0 = 60) → (¬ v0 = 61) → (¬ v0 = 62) → (v0 = 40) → Q (.inl (some (aI 1))) (G, c))
    (z6 : (¬ v0 = 59) → (¬ v0 = 60) → (¬ v0 = 61) → (¬ v0 = 62) → (¬ v0 = 40) → (¬ v0 = 41) → Q (.inl (some (aI 0))) (G, c))
    (z7 : (¬ v0 = 59) → (¬ v0 = 60) → (¬ v0 = 61) → (¬ v0 = 62) → (¬ v0 = 40) → (v0 = 41) → Q (.inl (some (aI 1))) (G, c)) :
    T d 155 0 [some (aI v0)] [] (G, c) Q := by
  refine e_L (L' := [some (aI v0)]) (st' := [aI v0]) (show decode (mC 155) 0 = .ok (.iload_n 0, 1) by decide +kernel) rfl rfl ?_
  refine e_P (st' := [aI 59, aI v0]) (show decode (mC 155) 1 = .ok (.bipush 59, 2) by decide +kernel) rfl rfl rfl ?_
  refine e_eq2 (t := 36) (show decode (mC 155) 3 = .ok (.if_icmp .eq 33, 3) by decide +kernel) (by decide) s0 (by decide) (fun p1 => ?_) (fun p1 => ?_)
  · refine e_P (st' := [aI 1]) (show decode (mC 155) 36 = .ok (.iconst 1, 1) by decide +kernel) rfl rfl rfl ?_
    refine e_go (t := 41) (show decode (mC 155) 37 = .ok (.goto 4, 3) by decide +kernel) (by decide) ?_
    exact e_zret (show decode (mC 155) 41 = .ok (.ireturn, 1) by decide +kernel) rfl (by decide) (z1 p1)
  · refine e_L (L' := [some (aI v0)]) (st' := [aI v0]) (show decode (mC 155) 6 = .ok (.iload_n 0, 1) by decide +kernel) rfl rfl ?_
    refine e_P (st' := [aI 60, aI v0]) (show decode (mC 155) 7 = .ok (.bipush 60, 2) by decide +kernel) rfl rfl rfl ?_
    refine e_eq2 (t := 36) (show decode (mC 155) 9 = .ok (.if_icmp .eq 27, 3) by decide +kernel) (by decide) s0 (by decide) (fun p2 => ?_) (fun p2 => ?_)
    · refine e_P (st' := [aI 1]) (show decode (mC 155) 36 = .ok (.iconst 1, 1) by decide +kernel) rfl rfl rfl ?_
      refine e_go (t := 41) (show decode (mC 155) 37 = .ok (.goto 4, 3) by decide +kernel) (by decide) ?_
      exact e_zret (show decode (mC 155) 41 = .ok (.ireturn, 1) by decide +kernel) rfl (by decide) (z2 p1 p2)
    · refine e_L (L' := [some (aI v0)]) (st' := [aI v0]) (show decode (mC 155) 12 = .ok (.iload_n 0, 1) by decide +kernel) rfl rfl ?_
      refine e_P (st' := [aI 61, aI v0]) (show decode (mC 155) 13 = .ok (.bipush 61, 2) by decide +kernel) rfl rfl rfl ?_
      refine e_eq2 (t := 36) (show decode (mC 155) 15 = .ok (.if_icmp .eq 21, 3) by decide +kernel) (by decide) s0 (by decide) (fun p3 => ?_) (fun p3 => ?_)
      · refine e_P (st' := [aI 1]) (show decode (mC 155) 36 = .ok (.iconst 1, 1) by decide +kernel) rfl rfl rfl ?_
        refine e_go (t := 41) (show decode (mC 155) 37 = .ok (.goto 4, 3) by decide +kernel) (by decide) ?_
        exact e_zret (show decode (mC 155) 41 = .ok (.ireturn, 1) by decide +kernel) rfl (by decide) (z3 p1 p2 p3)
      · refine e_L (L' := [some (aI v0)]) (st' := [aI v0]) (show decode (mC 155) 18 = .ok (.iload_n 0, 1) by decide +kernel) rfl rfl ?_
        refine e_P (st' := [aI 62, aI v0]) (show decode (mC 155) 19 = .ok (.bipush 62, 2) by decide +kernel) rfl rfl rfl ?_
        refine e_eq2 (t := 36) (show decode (mC 155) 21 = .ok (.if_icmp .eq 15, 3) by decide +kernel) (by decide) s0 (by decide) (fun p4 => ?_) (fun p4 => ?_)
        · refine e_P (st' := [aI 1]) (show decode (mC 155) 36 = .ok (.iconst 1, 1) by decide +kernel) rfl rfl rfl ?_
          refine e_go (t := 41) (show decode (mC 155) 37 = .ok (.goto 4, 3) by decide +kernel) (by decide) ?_
          exact e_zret (show decode (mC 155) 41 = .ok (.ireturn, 1) by decide +kernel) rfl (by decide) (z4 p1 p2 p3 p4)
        · refine e_L (L' := [some (aI v0)]) (st' := [aI v0]) (show decode (mC 155) 24 = .ok (.iload_n 0, 1) by decide +kernel) rfl rfl ?_
          refine e_P (st' := [aI 40, aI v0]) (show decode (mC 155) 25 = .ok (.bipush 40, 2) by decide +kernel) rfl rfl rfl ?_
          refine e_eq2 (t := 36) (show decode (mC 155) 27 = .ok (.if_icmp .eq 9, 3) by decide +kernel) (by decide) s0 (by decide) (fun p5 => ?_) (fun p5 => ?_)
          · refine e_P (st' := [aI 1]) (show decode (mC 155) 36 = .ok (.iconst 1, 1) by decide +kernel) rfl rfl rfl ?_
            refine e_go (t := 41) (show decode (mC 155) 37 = .ok (.goto 4, 3) by decide +kernel) (by decide) ?_
            exact e_zret (show decode (mC 155) 41 = .ok (.ireturn, 1) by decide +kernel) rfl (by decide) (z5 p1 p2 p3 p4 p5)
          · refine e_L (L' := [some (aI v0)]) (st' := [aI v0]) (show decode (mC 155) 30 = .ok (.iload_n 0, 1) by decide +kernel) rfl rfl ?_
            refine e_P (st' := [aI 41, aI v0]) (show decode (mC 155) 31 = .ok (.bipush 41, 2) by decide +kernel) rfl rfl rfl ?_
            refine e_ne2 (t := 40) (show decode (mC 155) 33 = .ok (.if_icmp .ne 7, 3) by decide +kernel) (by decide) s0 (by decide) (fun p6 => ?_) (fun p6 => ?_)
            · refine e_P (st' := [aI 0]) (show decode (mC 155) 40 = .ok (.iconst 0, 1) by decide +kernel) rfl rfl rfl ?_
              exact e_zret (show decode (mC 155) 41 = .ok (.ireturn, 1) by decide +kernel) rfl (by decide) (z6 p1 p2 p3 p4 p5 p6)
            · refine e_P (st' := [aI 1]) (show decode (mC 155) 36 = .ok (.iconst 1, 1) by decide +kernel) rfl rfl rfl ?_
              refine e_go (t := 41) (show decode (mC 155) 37 = .ok (.goto 4, 3) by decide +kernel) (by decide) ?_
              exact e_zret (show decode (mC 155) 41 = .ok (.ireturn, 1) by decide +kernel) rfl (by decide) (z7 p1 p2 p3 p4 p5 p6)
end QB20
