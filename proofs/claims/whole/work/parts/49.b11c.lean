section QB19
variable {d : Nat} {G : GG} {c : CC} {Q : OO → HH → Prop}
/-- SoulOffice.drawn(II)I, from 59 -/
theorem b130_59 (hG : Shp G) {v3 u0 : Int}
    (z0 : Q (.inl (some (aI (u0 - v3)))) (G, c)) :
    T (d + 1) 130 59 [none, none, none, some (aI v3)] [aI u0] (G, c) Q := by
  refine e_L (L' := [none, none, none, some (aI v3)]) (st' := [aI v3, aI u0]) (show decode (mC 130) 59 = .ok (.iload_n 3, 1) by decide +kernel) rfl rfl ?_
  refine e_P (st' := [aI (u0 - v3)]) (show decode (mC 130) 60 = .ok (.isub, 1) by decide +kernel) rfl rfl rfl ?_
  exact e_iret (show decode (mC 130) 61 = .ok (.ireturn, 1) by decide +kernel) rfl z0
/-- SoulOffice.appeal(II)I, from 0 -/
theorem b131_0 (hG : Shp G) {v1 v2 : Int}
    (m0 : TM d 71 [aR 9, aI v1] (G, c) (fun r h' => T (d + 1) 131 8 [some (aR 1), some (aI v1), some (aI v2)] (r.toList ++ []) h' Q)) :
    T (d + 1) 131 0 [some (aR 1), some (aI v1), some (aI v2)] [] (G, c) Q := by
  refine e_L (L' := [some (aR 1), some (aI v1), some (aI v2)]) (st' := [aR 1]) (show decode (mC 131) 0 = .ok (.aload_n 0, 1) by decide +kernel) rfl (by show (if 1 = 0 then none else some (_, _)) = _; rw [if_neg (by decide)]) ?_
  refine e_getR (w := 9) (show decode (mC 131) 1 = .ok (.getfield 27, 3) by decide +kernel) (show pl 11 27 = some (0, 11, 1, 0) by decide +kernel) (by decide) (sh_ok hG (by decide +kernel)) (sh_rf hG (by decide +kernel)) ?_
  refine e_L (L' := [some (aR 1), some (aI v1), some (aI v2)]) (st' := [aI v1, aR 9]) (show decode (mC 131) 4 = .ok (.iload_n 1, 1) by decide +kernel) rfl rfl ?_
  exact e_V (as := [aR 9, aI v1]) (rest := []) (show decode (mC 131) 5 = .ok (.invokevirtual 213, 3) by decide +kernel) (by decide +kernel) (show (decide ((2 : Nat) = mA 71) && decide (71 < q_law)) = true by decide +kernel) rfl (show (0 : Nat) ≤ 8 by decide) (show (2 : Nat) ≤ mL 71 by decide +kernel) rfl (sh_ok hG (by decide +kernel)) m0
/-- SoulOffice.appeal(II)I, from 8 -/
theorem b131_8 (hG : Shp G) {v1 v2 u0 : Int}
    (s0 : -2147483648 ≤ u0 ∧ u0 < 2147483648)
    (z1 : (u0 = 0) → Q (.inl (some (aI (-1)))) (G, c))
    (m2 : (¬ u0 = 0) → TM d 70 [aR 9, aI v2] (G, c) (fun r h' => T (d + 1) 131 19 [some (aR 1), some (aI v1), some (aI v2)] (r.toList ++ []) h' Q)) :
    T (d + 1) 131 8 [some (aR 1), some (aI v1), some (aI v2)] [aI u0] (G, c) Q := by
  refine e_eq1 (t := 34) (show decode (mC 131) 8 = .ok (.ifCond .eq 26, 3) by decide +kernel) (by decide) s0 (fun p1 => ?_) (fun p1 => ?_)
  · refine e_P (st' := [aI (-1)]) (show decode (mC 131) 34 = .ok (.iconst (-1), 1) by decide +kernel) rfl rfl rfl ?_
    exact e_iret (show decode (mC 131) 35 = .ok (.ireturn, 1) by decide +kernel) rfl (z1 p1)
  · refine e_L (L' := [some (aR 1), some (aI v1), some (aI v2)]) (st' := [aR 1]) (show decode (mC 131) 11 = .ok (.aload_n 0, 1) by decide +kernel) rfl (by show (if 1 = 0 then none else some (_, _)) = _; rw [if_neg (by decide)]) ?_
    refine e_getR (w := 9) (show decode (mC 131) 12 = .ok (.getfield 27, 3) by decide +kernel) (show pl 11 27 = some (0, 11, 1, 0) by decide +kernel) (by decide) (sh_ok hG (by decide +kernel)) (sh_rf hG (by decide +kernel)) ?_
    refine e_L (L' := [some (aR 1), some (aI v1), some (aI v2)]) (st' := [aI v2, aR 9]) (show decode (mC 131) 15 = .ok (.iload_n 2, 1) by decide +kernel) rfl rfl ?_
    exact e_V (as := [aR 9, aI v2]) (rest := []) (show decode (mC 131) 16 = .ok (.invokevirtual 190, 3) by decide +kernel) (by decide +kernel) (show (decide ((2 : Nat) = mA 70) && decide (70 < q_law)) = true by decide +kernel) rfl (show (0 : Nat) ≤ 8 by decide) (show (2 : Nat) ≤ mL 70 by decide +kernel) rfl (sh_ok hG (by decide +kernel)) (m2 p1)
/-- SoulOffice.appeal(II)I, from 19 -/
theorem b131_19 (hG : Shp G) {v1 v2 u0 : Int} (hQ : ∀ o o' h', q_eqo o o' → Q o h' → Q o' h')
    (s0 : -2147483648 ≤ u0 ∧ u0 < 2147483648)
    (z1 : (u0 = 0) → Q (.inl (some (aI (-1)))) (G, c))
    (m2 : (¬ u0 = 0) → TM d 1 [aR 132, aI v1, aI v2] (G, c) (fun r h' => T (d + 1) 131 31 [none, none, none] (r.toList ++ []) h' Q)) :
    T (d + 1) 131 19 [some (aR 1), some (aI v1), some (aI v2)] [aI u0] (G, c) Q := by
  refine e_eq1 (t := 34) (show decode (mC 131) 19 = .ok (.ifCond .eq 15, 3) by decide +kernel) (by decide) s0 (fun p1 => ?_) (fun p1 => ?_)
  · refine e_P (st' := [aI (-1)]) (show decode (mC 131) 34 = .ok (.iconst (-1), 1) by decide +kernel) rfl rfl rfl ?_
    exact e_iret (show decode (mC 131) 35 = .ok (.ireturn, 1) by decide +kernel) rfl (z1 p1)
  · refine e_L (L' := [some (aR 1), some (aI v1), some (aI v2)]) (st' := [aR 1]) (show decode (mC 131) 22 = .ok (.aload_n 0, 1) by decide +kernel) rfl (by show (if 1 = 0 then none else some (_, _)) = _; rw [if_neg (by decide)]) ?_
    refine e_getR (w := 132) (show decode (mC 131) 23 = .ok (.getfield 86, 3) by decide +kernel) (show pl 11 86 = some (0, 11, 12, 0) by decide +kernel) (by decide) (sh_ok hG (by decide +kernel)) (sh_rf hG (by decide +kernel)) ?_
    refine e_L (L' := [some (aR 1), some (aI v1), some (aI v2)]) (st' := [aI v1, aR 132]) (show decode (mC 131) 26 = .ok (.iload_n 1, 1) by decide +kernel) rfl rfl ?_
    refine e_L (L' := [some (aR 1), some (aI v1), some (aI v2)]) (st' := [aI v2, aI v1, aR 132]) (show decode (mC 131) 27 = .ok (.iload_n 2, 1) by decide +kernel) rfl rfl ?_
    exact e_V (as := [aR 132, aI v1, aI v2]) (rest := []) (show decode (mC 131) 28 = .ok (.invokevirtual 300, 3) by decide +kernel) (by decide +kernel) (show (decide ((3 : Nat) = mA 1) && decide (1 < q_law)) = true by decide +kernel) rfl (show (0 : Nat) ≤ 8 by decide) (show (3 : Nat) ≤ mL 1 by decide +kernel) rfl (sh_ok hG (by decide +kernel)) (tm_le hQ (leN (leN (leN leE))) (m2 p1))
/-- SoulOffice.appeal(II)I, from 31 -/
theorem b131_31 (hG : Shp G) {u0 : Int}
    (z0 : Q (.inl (some (aI u0))) (G, c)) :
    T (d + 1) 131 31 [none, none, none] [aI u0] (G, c) Q := by
  refine e_go (t := 35) (show decode (mC 131) 31 = .ok (.goto 4, 3) by decide +kernel) (by decide) ?_
  exact e_iret (show decode (mC 131) 35 = .ok (.ireturn, 1) by decide +kernel) rfl z0
/-- SoulOffice.grant(II)Z, from 0 -/
theorem b132_0 (hG : Shp G) {v1 v2 : Int}
    (m0 : TM d 131 [aR 1, aI v1, aI v2] (G, c) (fun r h' => T (d + 1) 132 6 [some (aR 1), some (aI v1), some (aI v2), none] (r.toList ++ []) h' Q)) :
    T (d + 1) 132 0 [some (aR 1), some (aI v1), some (aI v2), none] [] (G, c) Q := by
  refine e_L (L' := [some (aR 1), some (aI v1), some (aI v2), none]) (st' := [aR 1]) (show decode (mC 132) 0 = .ok (.aload_n 0, 1) by decide +kernel) rfl (by show (if 1 = 0 then none else some (_, _)) = _; rw [if_neg (by decide)]) ?_
  refine e_L (L' := [some (aR 1), some (aI v1), some (aI v2), none]) (st' := [aI v1, aR 1]) (show decode (mC 132) 1 = .ok (.iload_n 1, 1) by decide +kernel) rfl rfl ?_
  refine e_L (L' := [some (aR 1), some (aI v1), some (aI v2), none]) (st' := [aI v2, aI v1, aR 1]) (show decode (mC 132) 2 = .ok (.iload_n 2, 1) by decide +kernel) rfl rfl ?_
  exact e_V (as := [aR 1, aI v1, aI v2]) (rest := []) (show decode (mC 132) 3 = .ok (.invokevirtual 303, 3) by decide +kernel) (by decide +kernel) (show (decide ((3 : Nat) = mA 131) && decide (131 < q_law)) = true by decide +kernel) rfl (show (0 : Nat) ≤ 8 by decide) (show (3 : Nat) ≤ mL 131 by decide +kernel) rfl (sh_ok hG (by decide +kernel)) m0
/-- SoulOffice.grant(II)Z, from 6 -/
theorem b132_6 (hG : Shp G) {v1 v2 u0 : Int} (hQ : ∀ o o' h', q_eqo o o' → Q o h' → Q o' h')
    (s0 : -2147483648 ≤ u0 ∧ u0 < 2147483648)
    (z1 : (u0 < 1) → Q (.inl (some (aI 0))) (G, c))
    (m2 : (1 ≤ u0) → TM d 3 [aR 132, aI v1, aI v2, aI u0] (G, c) (fun r h' => T (d + 1) 132 22 [some (aR 1), none, none, none] (r.toList ++ []) h' Q)) :
    T (d + 1) 132 6 [some (aR 1), some (aI v1), some (aI v2), none] [aI u0] (G, c) Q := by
  refine e_L (L' := [some (aR 1), some (aI v1), some (aI v2), some (aI u0)]) (st' := []) (show decode (mC 132) 6 = .ok (.istore_n 3, 1) by decide +kernel) rfl rfl ?_
  refine e_L (L' := [some (aR 1), some (aI v1), some (aI v2), some (aI u0)]) (st' := [aI u0]) (show decode (mC 132) 7 = .ok (.iload_n 3, 1) by decide +kernel) rfl rfl ?_
  refine e_P (st' := [aI 1, aI u0]) (show decode (mC 132) 8 = .ok (.iconst 1, 1) by decide +kernel) rfl rfl rfl ?_
  refine e_lt2 (t := 25) (show decode (mC 132) 9 = .ok (.if_icmp .lt 16, 3) by decide +kernel) (by decide) s0 (by decide) (fun p1 => ?_) (fun p1 => ?_)
  · refine e_P (st' := [aI 0]) (show decode (mC 132) 25 = .ok (.iconst 0, 1) by decide +kernel) rfl rfl rfl ?_
    exact e_zret (show decode (mC 132) 26 = .ok (.ireturn, 1) by decide +kernel) rfl (by decide) (z1 p1)
  · refine e_L (L' := [some (aR 1), some (aI v1), some (aI v2), some (aI u0)]) (st' := [aR 1]) (show decode (mC 132) 12 = .ok (.aload_n 0, 1) by decide +kernel) rfl (by show (if 1 = 0 then none else some (_, _)) = _; rw [if_neg (by decide)]) ?_
    refine e_getR (w := 132) (show decode (mC 132) 13 = .ok (.getfield 86, 3) by decide +kernel) (show pl 11 86 = some (0, 11, 12, 0) by decide +kernel) (by decide) (sh_ok hG (by decide +kernel)) (sh_rf hG (by decide +kernel)) ?_
    refine e_L (L' := [some (aR 1), some (aI v1), some (aI v2), some (aI u0)]) (st' := [aI v1, aR 132]) (show decode (mC 132) 16 = .ok (.iload_n 1, 1) by decide +kernel) rfl rfl ?_
    refine e_L (L' := [some (aR 1), some (aI v1), some (aI v2), some (aI u0)]) (st' := [aI v2, aI v1, aR 132]) (show decode (mC 132) 17 = .ok (.iload_n 2, 1) by decide +kernel) rfl rfl ?_
    refine e_L (L' := [some (aR 1), some (aI v1), some (aI v2), some (aI u0)]) (st' := [aI u0, aI v2, aI v1, aR 132]) (show decode (mC 132) 18 = .ok (.iload_n 3, 1) by decide +kernel) rfl rfl ?_
    exact e_V (as := [aR 132, aI v1, aI v2, aI u0]) (rest := []) (show decode (mC 132) 19 = .ok (.invokevirtual 306, 3) by decide +kernel) (by decide +kernel) (show (decide ((4 : Nat) = mA 3) && decide (3 < q_law)) = true by decide +kernel) rfl (show (0 : Nat) ≤ 8 by decide) (show (4 : Nat) ≤ mL 3 by decide +kernel) rfl (sh_ok hG (by decide +kernel)) (tm_le hQ (leS (leN (leN (leN leE)))) (m2 p1))
/-- SoulOffice.grant(II)Z, from 22 -/
theorem b132_22 (hG : Shp G) {u0 : Int}
    (s0 : -2147483648 ≤ u0 ∧ u0 < 2147483648)
    (m1 : (¬ u0 = 0) → TM d 14 [aR 53, aR 27] (G, c) (fun r h' => T (d + 1) 132 38 [some (aR 1), none, none, none] (r.toList ++ []) h' Q))
    (z2 : (u0 = 0) → Q (.inl (some (aI 0))) (G, c)) :
    T (d + 1) 132 22 [some (aR 1), none, none, none] [aI u0] (G, c) Q := by
  refine e_ne1 (t := 27) (show decode (mC 132) 22 = .ok (.ifCond .ne 5, 3) by decide +kernel) (by decide) s0 (fun p1 => ?_) (fun p1 => ?_)
  · refine e_L (L' := [some (aR 1), none, none, none]) (st' := [aR 1]) (show decode (mC 132) 27 = .ok (.aload_n 0, 1) by decide +kernel) rfl (by show (if 1 = 0 then none else some (_, _)) = _; rw [if_neg (by decide)]) ?_
    refine e_getR (w := 53) (show decode (mC 132) 28 = .ok (.getfield 56, 3) by decide +kernel) (show pl 11 56 = some (0, 11, 7, 0) by decide +kernel) (by decide) (sh_ok hG (by decide +kernel)) (sh_rf hG (by decide +kernel)) ?_
    refine e_L (L' := [some (aR 1), none, none, none]) (st' := [aR 1, aR 53]) (show decode (mC 132) 31 = .ok (.aload_n 0, 1) by decide +kernel) rfl (by show (if 1 = 0 then none else some (_, _)) = _; rw [if_neg (by decide)]) ?_
    refine e_getR (w := 27) (show decode (mC 132) 32 = .ok (.getfield 34, 3) by decide +kernel) (show pl 11 34 = some (0, 11, 3, 0) by decide +kernel) (by decide) (sh_ok hG (by decide +kernel)) (sh_rf hG (by decide +kernel)) ?_
    exact e_V (as := [aR 53, aR 27]) (rest := []) (show decode (mC 132) 35 = .ok (.invokevirtual 145, 3) by decide +kernel) (by decide +kernel) (show (decide ((2 : Nat) = mA 14) && decide (14 < q_law)) = true by decide +kernel) rfl (show (0 : Nat) ≤ 8 by decide) (show (2 : Nat) ≤ mL 14 by decide +kernel) rfl (sh_ok hG (by decide +kernel)) (m1 p1)
  · refine e_P (st' := [aI 0]) (show decode (mC 132) 25 = .ok (.iconst 0, 1) by decide +kernel) rfl rfl rfl ?_
    exact e_zret (show decode (mC 132) 26 = .ok (.ireturn, 1) by decide +kernel) rfl (by decide) (z2 p1)
/-- SoulOffice.grant(II)Z, from 38 -/
theorem b132_38 (hG : Shp G) (hQ : ∀ o o' h', q_eqo o o' → Q o h' → Q o' h')
    (m0 : TM d 6 [aR 132] (G, c) (fun r h' => T (d + 1) 132 45 [none, none, none, none] (r.toList ++ []) h' Q)) :
    T (d + 1) 132 38 [some (aR 1), none, none, none] [] (G, c) Q := by
  refine e_L (L' := [some (aR 1), none, none, none]) (st' := [aR 1]) (show decode (mC 132) 38 = .ok (.aload_n 0, 1) by decide +kernel) rfl (by show (if 1 = 0 then none else some (_, _)) = _; rw [if_neg (by decide)]) ?_
  refine e_getR (w := 132) (show decode (mC 132) 39 = .ok (.getfield 86, 3) by decide +kernel) (show pl 11 86 = some (0, 11, 12, 0) by decide +kernel) (by decide) (sh_ok hG (by decide +kernel)) (sh_rf hG (by decide +kernel)) ?_
  exact e_V (as := [aR 132]) (rest := []) (show decode (mC 132) 42 = .ok (.invokevirtual 310, 3) by decide +kernel) (by decide +kernel) (show (decide ((1 : Nat) = mA 6) && decide (6 < q_law)) = true by decide +kernel) rfl (show (0 : Nat) ≤ 8 by decide) (show (1 : Nat) ≤ mL 6 by decide +kernel) rfl (sh_ok hG (by decide +kernel)) (tm_le hQ (leN (leS (leS (leS leE)))) m0)
/-- SoulOffice.grant(II)Z, from 45 -/
theorem b132_45 (hG : Shp G)
    (z0 : Q (.inl (some (aI 1))) (G, c)) :
    T (d + 1) 132 45 [none, none, none, none] [] (G, c) Q := by
  refine e_P (st' := [aI 1]) (show decode (mC 132) 45 = .ok (.iconst 1, 1) by decide +kernel) rfl rfl rfl ?_
  exact e_zret (show decode (mC 132) 46 = .ok (.ireturn, 1) by decide +kernel) rfl (by decide) z0
/-- SoulOffice.undo()I, from 0 -/
theorem b133_0 (hG : Shp G) (hQ : ∀ o o' h', q_eqo o o' → Q o h' → Q o' h')
    (m0 : TM d 15 [aR 53, aR 27] (G, c) (fun r h' => T (d + 1) 133 11 [none] (r.toList ++ []) h' Q)) :
    T (d + 1) 133 0 [some (aR 1)] [] (G, c) Q := by
  refine e_L (L' := [some (aR 1)]) (st' := [aR 1]) (show decode (mC 133) 0 = .ok (.aload_n 0, 1) by decide +kernel) rfl (by show (if 1 = 0 then none else some (_, _)) = _; rw [if_neg (by decide)]) ?_
  refine e_getR (w := 53) (show decode (mC 133) 1 = .ok (.getfield 56, 3) by decide +kernel) (show pl 11 56 = some (0, 11, 7, 0) by decide +kernel) (by decide) (sh_ok hG (by decide +kernel)) (sh_rf hG (by decide +kernel)) ?_
  refine e_L (L' := [some (aR 1)]) (st' := [aR 1, aR 53]) (show decode (mC 133) 4 = .ok (.aload_n 0, 1) by decide +kernel) rfl (by show (if 1 = 0 then none else some (_, _)) = _; rw [if_neg (by decide)]) ?_
  refine e_getR (w := 27) (show decode (mC 133) 5 = .ok (.getfield 34, 3) by decide +kernel) (show pl 11 34 = some (0, 11, 3, 0) by decide +kernel) (by decide) (sh_ok hG (by decide +kernel)) (sh_rf hG (by decide +kernel)) ?_
  exact e_V (as := [aR 53, aR 27]) (rest := []) (show decode (mC 133) 8 = .ok (.invokevirtual 313, 3) by decide +kernel) (by decide +kernel) (show (decide ((2 : Nat) = mA 15) && decide (15 < q_law)) = true by decide +kernel) rfl (show (0 : Nat) ≤ 8 by decide) (show (2 : Nat) ≤ mL 15 by decide +kernel) rfl (sh_ok hG (by decide +kernel)) (tm_le hQ (leN leE) m0)
/-- SoulOffice.undo()I, from 11 -/
theorem b133_11 (hG : Shp G) {u0 : Int}
    (z0 : Q (.inl (some (aI u0))) (G, c)) :
    T (d + 1) 133 11 [none] [aI u0] (G, c) Q := by
  exact e_iret (show decode (mC 133) 11 = .ok (.ireturn, 1) by decide +kernel) rfl z0
/-- SoulOffice.image(I)Z, from 0 -/
theorem b134_0 (hG : Shp G) {v1 : Int} {w1 : Nat} (o_w1 : okR G w1 3) (hQ : ∀ o o' h', q_eqo o o' → Q o h' → Q o' h')
    (s0 : -2147483648 ≤ v1 ∧ v1 < 2147483648)
    (z1 : (v1 < 0) → Q (.inl (some (aI 0))) (G, c))
    (s2 : (0 ≤ v1) → (v1 < 2) → 0 ≤ v1)
    (s3 : (0 ≤ v1) → (v1 < 2) → v1 < 2)
    (hw1 : rfR G 140 ((v1 : Int)).toNat w1)
    (m5 : (0 ≤ v1) → (v1 < 2) → TM d 17 [aR w1, aR 9, aR 27, aR 43] (G, c) (fun r h' => T (d + 1) 134 44 [none, none, none] (r.toList ++ []) h' Q))
    (z6 : (0 ≤ v1) → (2 ≤ v1) → Q (.inl (some (aI 0))) (G, c)) :
    T (d + 1) 134 0 [some (aR 1), some (aI v1), none] [] (G, c) Q := by
  refine e_L (L' := [some (aR 1), some (aI v1), none]) (st' := [aI v1]) (show decode (mC 134) 0 = .ok (.iload_n 1, 1) by decide +kernel) rfl rfl ?_
  refine e_lt1 (t := 13) (show decode (mC 134) 1 = .ok (.ifCond .lt 12, 3) by decide +kernel) (by decide) s0 (fun p1 => ?_) (fun p1 => ?_)
  · refine e_P (st' := [aI 0]) (show decode (mC 134) 13 = .ok (.iconst 0, 1) by decide +kernel) rfl rfl rfl ?_
    exact e_zret (show decode (mC 134) 14 = .ok (.ireturn, 1) by decide +kernel) rfl (by decide) (z1 p1)
  · refine e_L (L' := [some (aR 1), some (aI v1), none]) (st' := [aI v1]) (show decode (mC 134) 4 = .ok (.iload_n 1, 1) by decide +kernel) rfl rfl ?_
    refine e_L (L' := [some (aR 1), some (aI v1), none]) (st' := [aR 1, aI v1]) (show decode (mC 134) 5 = .ok (.aload_n 0, 1) by decide +kernel) rfl (by show (if 1 = 0 then none else some (_, _)) = _; rw [if_neg (by decide)]) ?_
    refine e_getR (w := 140) (show decode (mC 134) 6 = .ok (.getfield 100, 3) by decide +kernel) (show pl 11 100 = some (0, 11, 8, 0) by decide +kernel) (by decide) (sh_ok hG (by decide +kernel)) (sh_rf hG (by decide +kernel)) ?_
    refine e_alen (n := 2) (ki := 25) (show decode (mC 134) 9 = .ok (.arraylength, 1) by decide +kernel) (sh_ok hG (by decide +kernel)) (by decide) (sh_ln hG (by decide +kernel)) ?_
    refine e_lt2 (t := 15) (show decode (mC 134) 10 = .ok (.if_icmp .lt 5, 3) by decide +kernel) (by decide) s0 (by decide) (fun p2 => ?_) (fun p2 => ?_)
    · refine e_L (L' := [some (aR 1), some (aI v1), none]) (st' := [aR 1]) (show decode (mC 134) 15 = .ok (.aload_n 0, 1) by decide +kernel) rfl (by show (if 1 = 0 then none else some (_, _)) = _; rw [if_neg (by decide)]) ?_
      refine e_getR (w := 140) (show decode (mC 134) 16 = .ok (.getfield 100, 3) by decide +kernel) (show pl 11 100 = some (0, 11, 8, 0) by decide +kernel) (by decide) (sh_ok hG (by decide +kernel)) (sh_rf hG (by decide +kernel)) ?_
      refine e_L (L' := [some (aR 1), some (aI v1), none]) (st' := [aI v1, aR 140]) (show decode (mC 134) 19 = .ok (.iload_n 1, 1) by decide +kernel) rfl rfl ?_
      refine e_aald (n := 2) (w := w1) (show decode (mC 134) 20 = .ok (.aaload, 1) by decide +kernel) (Or.inr (sh_ok hG (by decide +kernel))) (sh_ln hG (by decide +kernel)) (by decide) (s2 p1 p2) (s3 p1 p2) hw1 ?_
      refine e_L (L' := [some (aR 1), some (aI v1), some (aR w1)]) (st' := []) (show decode (mC 134) 21 = .ok (.astore_n 2, 1) by decide +kernel) rfl (by show (if w1 = 0 then none else _) = _; rw [if_neg (okR_ne o_w1)]; rfl) ?_
      refine e_L (L' := [some (aR 1), some (aI v1), some (aR w1)]) (st' := [aR w1]) (show decode (mC 134) 22 = .ok (.aload_n 2, 1) by decide +kernel) rfl (by show (if w1 = 0 then none else some (_, _)) = _; rw [if_neg (okR_ne o_w1)]) ?_
      refine e_nn (t := 28) (show decode (mC 134) 23 = .ok (.ifnonnull 5, 3) by decide +kernel) (by decide) (okR_ne o_w1) ?_
      refine e_L (L' := [some (aR 1), some (aI v1), some (aR w1)]) (st' := [aR w1]) (show decode (mC 134) 28 = .ok (.aload_n 2, 1) by decide +kernel) rfl (by show (if w1 = 0 then none else some (_, _)) = _; rw [if_neg (okR_ne o_w1)]) ?_
      refine e_L (L' := [some (aR 1), some (aI v1), some (aR w1)]) (st' := [aR 1, aR w1]) (show decode (mC 134) 29 = .ok (.aload_n 0, 1) by decide +kernel) rfl (by show (if 1 = 0 then none else some (_, _)) = _; rw [if_neg (by decide)]) ?_
      refine e_getR (w := 9) (show decode (mC 134) 30 = .ok (.getfield 27, 3) by decide +kernel) (show pl 11 27 = some (0, 11, 1, 0) by decide +kernel) (by decide) (sh_ok hG (by decide +kernel)) (sh_rf hG (by decide +kernel)) ?_
      refine e_L (L' := [some (aR 1), some (aI v1), some (aR w1)]) (st' := [aR 1, aR 9, aR w1]) (show decode (mC 134) 33 = .ok (.aload_n 0, 1) by decide +kernel) rfl (by show (if 1 = 0 then none else some (_, _)) = _; rw [if_neg (by decide)]) ?_
      refine e_getR (w := 27) (show decode (mC 134) 34 = .ok (.getfield 34, 3) by decide +kernel) (show pl 11 34 = some (0, 11, 3, 0) by decide +kernel) (by decide) (sh_ok hG (by decide +kernel)) (sh_rf hG (by decide +kernel)) ?_
      refine e_L (L' := [some (aR 1), some (aI v1), some (aR w1)]) (st' := [aR 1, aR 27, aR 9, aR w1]) (show decode (mC 134) 37 = .ok (.aload_n 0, 1) by decide +kernel) rfl (by show (if 1 = 0 then none else some (_, _)) = _; rw [if_neg (by decide)]) ?_
      refine e_getR (w := 43) (show decode (mC 134) 38 = .ok (.getfield 46, 3) by decide +kernel) (show pl 11 46 = some (0, 11, 5, 0) by decide +kernel) (by decide) (sh_ok hG (by decide +kernel)) (sh_rf hG (by decide +kernel)) ?_
      exact e_V (as := [aR w1, aR 9, aR 27, aR 43]) (rest := []) (show decode (mC 134) 41 = .ok (.invokevirtual 316, 3) by decide +kernel) (by decide +kernel) (show (decide ((4 : Nat) = mA 17) && decide (17 < q_law)) = true by decide +kernel) rfl (show (0 : Nat) ≤ 8 by decide) (show (4 : Nat) ≤ mL 17 by decide +kernel) rfl o_w1 (tm_le hQ (leN (leN (leN leE))) (m5 p1 p2))
    · refine e_P (st' := [aI 0]) (show decode (mC 134) 13 = .ok (.iconst 0, 1) by decide +kernel) rfl rfl rfl ?_
      exact e_zret (show decode (mC 134) 14 = .ok (.ireturn, 1) by decide +kernel) rfl (by decide) (z6 p1 p2)
/-- SoulOffice.image(I)Z, from 44 -/
theorem b134_44 (hG : Shp G)
    (z0 : Q (.inl (some (aI 1))) (G, c)) :
    T (d + 1) 134 44 [none, none, none] [] (G, c) Q := by
  refine e_P (st' := [aI 1]) (show decode (mC 134) 44 = .ok (.iconst 1, 1) by decide +kernel) rfl rfl rfl ?_
  exact e_zret (show decode (mC 134) 45 = .ok (.ireturn, 1) by decide +kernel) rfl (by decide) z0
/-- SoulOffice.restore(I)Z, from 0 -/
theorem b135_0 (hG : Shp G) {v1 x1 : Int} {w1 : Nat} (o_w1 : okR G w1 3) (hQ : ∀ o o' h', q_eqo o o' → Q o h' → Q o' h')
    (s0 : -2147483648 ≤ v1 ∧ v1 < 2147483648)
    (z1 : (v1 < 0) → Q (.inl (some (aI 0))) (G, c))
    (s2 : (0 ≤ v1) → (v1 < 2) → 0 ≤ v1)
    (s3 : (0 ≤ v1) → (v1 < 2) → v1 < 2)
    (hw1 : rfR G 140 ((v1 : Int)).toNat w1)
    (ex1 : c w1 3 = x1)
    (s6 : (0 ≤ v1) → (v1 < 2) → -2147483648 ≤ x1 ∧ x1 < 2147483648)
    (m7 : (0 ≤ v1) → (v1 < 2) → (¬ x1 = 0) → TM d 18 [aR w1, aR 9, aR 27, aR 43] (G, c) (fun r h' => T (d + 1) 135 51 [some (aR 1), none, none] (r.toList ++ []) h' Q))
    (z8 : (0 ≤ v1) → (v1 < 2) → (x1 = 0) → Q (.inl (some (aI 0))) (G, c))
    (z9 : (0 ≤ v1) → (2 ≤ v1) → Q (.inl (some (aI 0))) (G, c)) :
    T (d + 1) 135 0 [some (aR 1), some (aI v1), none] [] (G, c) Q := by
  refine e_L (L' := [some (aR 1), some (aI v1), none]) (st' := [aI v1]) (show decode (mC 135) 0 = .ok (.iload_n 1, 1) by decide +kernel) rfl rfl ?_
  refine e_lt1 (t := 13) (show decode (mC 135) 1 = .ok (.ifCond .lt 12, 3) by decide +kernel) (by decide) s0 (fun p1 => ?_) (fun p1 => ?_)
  · refine e_P (st' := [aI 0]) (show decode (mC 135) 13 = .ok (.iconst 0, 1) by decide +kernel) rfl rfl rfl ?_
    exact e_zret (show decode (mC 135) 14 = .ok (.ireturn, 1) by decide +kernel) rfl (by decide) (z1 p1)
  · refine e_L (L' := [some (aR 1), some (aI v1), none]) (st' := [aI v1]) (show decode (mC 135) 4 = .ok (.iload_n 1, 1) by decide +kernel) rfl rfl ?_
    refine e_L (L' := [some (aR 1), some (aI v1), none]) (st' := [aR 1, aI v1]) (show decode (mC 135) 5 = .ok (.aload_n 0, 1) by decide +kernel) rfl (by show (if 1 = 0 then none else some (_, _)) = _; rw [if_neg (by decide)]) ?_
    refine e_getR (w := 140) (show decode (mC 135) 6 = .ok (.getfield 100, 3) by decide +kernel) (show pl 11 100 = some (0, 11, 8, 0) by decide +kernel) (by decide) (sh_ok hG (by decide +kernel)) (sh_rf hG (by decide +kernel)) ?_
    refine e_alen (n := 2) (ki := 25) (show decode (mC 135) 9 = .ok (.arraylength, 1) by decide +kernel) (sh_ok hG (by decide +kernel)) (by decide) (sh_ln hG (by decide +kernel)) ?_
    refine e_lt2 (t := 15) (show decode (mC 135) 10 = .ok (.if_icmp .lt 5, 3) by decide +kernel) (by decide) s0 (by decide) (fun p2 => ?_) (fun p2 => ?_)
    · refine e_L (L' := [some (aR 1), some (aI v1), none]) (st' := [aR 1]) (show decode (mC 135) 15 = .ok (.aload_n 0, 1) by decide +kernel) rfl (by show (if 1 = 0 then none else some (_, _)) = _; rw [if_neg (by decide)]) ?_
      refine e_getR (w := 140) (show decode (mC 135) 16 = .ok (.getfield 100, 3) by decide +kernel) (show pl 11 100 = some (0, 11, 8, 0) by decide +kernel) (by decide) (sh_ok hG (by decide +kernel)) (sh_rf hG (by decide +kernel)) ?_
      refine e_L (L' := [some (aR 1), some (aI v1), none]) (st' := [aI v1, aR 140]) (show decode (mC 135) 19 = .ok (.iload_n 1, 1) by decide +kernel) rfl rfl ?_
      refine e_aald (n := 2) (w := w1) (show decode (mC 135) 20 = .ok (.aaload, 1) by decide +kernel) (Or.inr (sh_ok hG (by decide +kernel))) (sh_ln hG (by decide +kernel)) (by decide) (s2 p1 p2) (s3 p1 p2) hw1 ?_
      refine e_L (L' := [some (aR 1), some (aI v1), some (aR w1)]) (st' := []) (show decode (mC 135) 21 = .ok (.astore_n 2, 1) by decide +kernel) rfl (by show (if w1 = 0 then none else _) = _; rw [if_neg (okR_ne o_w1)]; rfl) ?_
      refine e_L (L' := [some (aR 1), some (aI v1), some (aR w1)]) (st' := [aR w1]) (show decode (mC 135) 22 = .ok (.aload_n 2, 1) by decide +kernel) rfl (by show (if w1 = 0 then none else some (_, _)) = _; rw [if_neg (okR_ne o_w1)]) ?_
      refine e_nul (show decode (mC 135) 23 = .ok (.ifnull 10, 3) by decide +kernel) (okR_ne o_w1) ?_
      refine e_L (L' := [some (aR 1), some (aI v1), some (aR w1)]) (st' := [aR w1]) (show decode (mC 135) 26 = .ok (.aload_n 2, 1) by decide +kernel) rfl (by show (if w1 = 0 then none else some (_, _)) = _; rw [if_neg (okR_ne o_w1)]) ?_
      refine e_getIx (show decode (mC 135) 27 = .ok (.getfield 319, 3) by decide +kernel) (show pl 11 319 = some (0, 3, 3, 0) by decide +kernel) (by decide) o_w1 ex1 ?_
      refine e_ne1 (t := 35) (show decode (mC 135) 30 = .ok (.ifCond .ne 5, 3) by decide +kernel) (by decide) (s6 p1 p2) (fun p3 => ?_) (fun p3 => ?_)
      · refine e_L (L' := [some (aR 1), some (aI v1), some (aR w1)]) (st' := [aR w1]) (show decode (mC 135) 35 = .ok (.aload_n 2, 1) by decide +kernel) rfl (by show (if w1 = 0 then none else some (_, _)) = _; rw [if_neg (okR_ne o_w1)]) ?_
        refine e_L (L' := [some (aR 1), some (aI v1), some (aR w1)]) (st' := [aR 1, aR w1]) (show decode (mC 135) 36 = .ok (.aload_n 0, 1) by decide +kernel) rfl (by show (if 1 = 0 then none else some (_, _)) = _; rw [if_neg (by decide)]) ?_
        refine e_getR (w := 9) (show decode (mC 135) 37 = .ok (.getfield 27, 3) by decide +kernel) (show pl 11 27 = some (0, 11, 1, 0) by decide +kernel) (by decide) (sh_ok hG (by decide +kernel)) (sh_rf hG (by decide +kernel)) ?_
        refine e_L (L' := [some (aR 1), some (aI v1), some (aR w1)]) (st' := [aR 1, aR 9, aR w1]) (show decode (mC 135) 40 = .ok (.aload_n 0, 1) by decide +kernel) rfl (by show (if 1 = 0 then none else some (_, _)) = _; rw [if_neg (by decide)]) ?_
        refine e_getR (w := 27) (show decode (mC 135) 41 = .ok (.getfield 34, 3) by decide +kernel) (show pl 11 34 = some (0, 11, 3, 0) by decide +kernel) (by decide) (sh_ok hG (by decide +kernel)) (sh_rf hG (by decide +kernel)) ?_
        refine e_L (L' := [some (aR 1), some (aI v1), some (aR w1)]) (st' := [aR 1, aR 27, aR 9, aR w1]) (show decode (mC 135) 44 = .ok (.aload_n 0, 1) by decide +kernel) rfl (by show (if 1 = 0 then none else some (_, _)) = _; rw [if_neg (by decide)]) ?_
        refine e_getR (w := 43) (show decode (mC 135) 45 = .ok (.getfield 46, 3) by decide +kernel) (show pl 11 46 = some (0, 11, 5, 0) by decide +kernel) (by decide) (sh_ok hG (by decide +kernel)) (sh_rf hG (by decide +kernel)) ?_
        exact e_V (as := [aR w1, aR 9, aR 27, aR 43]) (rest := []) (show decode (mC 135) 48 = .ok (.invokevirtual 322, 3) by decide +kernel) (by decide +kernel) (show (decide ((4 : Nat) = mA 18) && decide (18 < q_law)) = true by decide +kernel) rfl (show (0 : Nat) ≤ 8 by decide) (show (4 : Nat) ≤ mL 18 by decide +kernel) rfl o_w1 (tm_le hQ (leS (leN (leN leE))) (m7 p1 p2 p3))
      · refine e_P (st' := [aI 0]) (show decode (mC 135) 33 = .ok (.iconst 0, 1) by decide +kernel) rfl rfl rfl ?_
        exact e_zret (show decode (mC 135) 34 = .ok (.ireturn, 1) by decide +kernel) rfl (by decide) (z8 p1 p2 p3)
    · refine e_P (st' := [aI 0]) (show decode (mC 135) 13 = .ok (.iconst 0, 1) by decide +kernel) rfl rfl rfl ?_
      exact e_zret (show decode (mC 135) 14 = .ok (.ireturn, 1) by decide +kernel) rfl (by decide) (z9 p1 p2)
/-- SoulOffice.restore(I)Z, from 51 -/
theorem b135_51 (hG : Shp G) (hQ : ∀ o o' h', q_eqo o o' → Q o h' → Q o' h')
    (m0 : TM d 13 [aR 53] (G, c) (fun r h' => T (d + 1) 135 58 [none, none, none] (r.toList ++ []) h' Q)) :
    T (d + 1) 135 51 [some (aR 1), none, none] [] (G, c) Q := by
  refine e_L (L' := [some (aR 1), none, none]) (st' := [aR 1]) (show decode (mC 135) 51 = .ok (.aload_n 0, 1) by decide +kernel) rfl (by show (if 1 = 0 then none else some (_, _)) = _; rw [if_neg (by decide)]) ?_
  refine e_getR (w := 53) (show decode (mC 135) 52 = .ok (.getfield 56, 3) by decide +kernel) (show pl 11 56 = some (0, 11, 7, 0) by decide +kernel) (by decide) (sh_ok hG (by decide +kernel)) (sh_rf hG (by decide +kernel)) ?_
  exact e_V (as := [aR 53]) (rest := []) (show decode (mC 135) 55 = .ok (.invokevirtual 129, 3) by decide +kernel) (by decide +kernel) (show (decide ((1 : Nat) = mA 13) && decide (13 < q_law)) = true by decide +kernel) rfl (show (0 : Nat) ≤ 8 by decide) (show (1 : Nat) ≤ mL 13 by decide +kernel) rfl (sh_ok hG (by decide +kernel)) (tm_le hQ (leN (leS (leS leE))) m0)
/-- SoulOffice.restore(I)Z, from 58 -/
theorem b135_58 (hG : Shp G)
    (z0 : Q (.inl (some (aI 1))) (G, c)) :
    T (d + 1) 135 58 [none, none, none] [] (G, c) Q := by
  refine e_P (st' := [aI 1]) (show decode (mC 135) 58 = .ok (.iconst 1, 1) by decide +kernel) rfl rfl rfl ?_
  exact e_zret (show decode (mC 135) 59 = .ok (.ireturn, 1) by decide +kernel) rfl (by decide) z0
/-- SoulOffice.most(I)I, from 0 -/
theorem b136_0 (hG : Shp G) {v1 : Int}
    (s0 : -2147483648 ≤ v1 ∧ v1 < 2147483648)
    (z1 : (v1 < 1) → Q (.inl (some (aI (-1)))) (G, c))
    (z2 : (1 ≤ v1) → (30 < v1) → Q (.inl (some (aI (-1)))) (G, c))
    (m3 : (1 ≤ v1) → (v1 ≤ 30) → TM d 26 [aR 27] (G, c) (fun r h' => T (d + 1) 136 18 [some (aR 1), some (aI v1)] (r.toList ++ []) h' Q)) :
    T (d + 1) 136 0 [some (aR 1), some (aI v1)] [] (G, c) Q := by
  refine e_L (L' := [some (aR 1), some (aI v1)]) (st' := [aI v1]) (show decode (mC 136) 0 = .ok (.iload_n 1, 1) by decide +kernel) rfl rfl ?_
  refine e_P (st' := [aI 1, aI v1]) (show decode (mC 136) 1 = .ok (.iconst 1, 1) by decide +kernel) rfl rfl rfl ?_
  refine e_lt2 (t := 22) (show decode (mC 136) 2 = .ok (.if_icmp .lt 20, 3) by decide +kernel) (by decide) s0 (by decide) (fun p1 => ?_) (fun p1 => ?_)
  · refine e_P (st' := [aI (-1)]) (show decode (mC 136) 22 = .ok (.iconst (-1), 1) by decide +kernel) rfl rfl rfl ?_
    exact e_iret (show decode (mC 136) 23 = .ok (.ireturn, 1) by decide +kernel) rfl (z1 p1)
  · refine e_L (L' := [some (aR 1), some (aI v1)]) (st' := [aI v1]) (show decode (mC 136) 5 = .ok (.iload_n 1, 1) by decide +kernel) rfl rfl ?_
    refine e_P (st' := [aI 30, aI v1]) (show decode (mC 136) 6 = .ok (.bipush 30, 2) by decide +kernel) rfl rfl rfl ?_
    refine e_gt2 (t := 22) (show decode (mC 136) 8 = .ok (.if_icmp .gt 14, 3) by decide +kernel) (by decide) s0 (by decide) (fun p2 => ?_) (fun p2 => ?_)
    · refine e_P (st' := [aI (-1)]) (show decode (mC 136) 22 = .ok (.iconst (-1), 1) by decide +kernel) rfl rfl rfl ?_
      exact e_iret (show decode (mC 136) 23 = .ok (.ireturn, 1) by decide +kernel) rfl (z2 p1 p2)
    · refine e_L (L' := [some (aR 1), some (aI v1)]) (st' := [aR 1]) (show decode (mC 136) 11 = .ok (.aload_n 0, 1) by decide +kernel) rfl (by show (if 1 = 0 then none else some (_, _)) = _; rw [if_neg (by decide)]) ?_
      refine e_getR (w := 27) (show decode (mC 136) 12 = .ok (.getfield 34, 3) by decide +kernel) (show pl 11 34 = some (0, 11, 3, 0) by decide +kernel) (by decide) (sh_ok hG (by decide +kernel)) (sh_rf hG (by decide +kernel)) ?_
      exact e_V (as := [aR 27]) (rest := []) (show decode (mC 136) 15 = .ok (.invokevirtual 261, 3) by decide +kernel) (by decide +kernel) (show (decide ((1 : Nat) = mA 26) && decide (26 < q_law)) = true by decide +kernel) rfl (show (0 : Nat) ≤ 8 by decide) (show (1 : Nat) ≤ mL 26 by decide +kernel) rfl (sh_ok hG (by decide +kernel)) (m3 p1 p2)
/-- SoulOffice.most(I)I, from 18 -/
theorem b136_18 (hG : Shp G) {v1 u0 : Int} (hQ : ∀ o o' h', q_eqo o o' → Q o h' → Q o' h')
    (s0 : -2147483648 ≤ u0 ∧ u0 < 2147483648)
    (m1 : (u0 ≤ 5) → TM d 44 [aR 124, aI v1] (G, c) (fun r h' => T (d + 1) 136 32 [none, none] (r.toList ++ []) h' Q))
    (z2 : (5 < u0) → Q (.inl (some (aI (-1)))) (G, c)) :
    T (d + 1) 136 18 [some (aR 1), some (aI v1)] [aI u0] (G, c) Q := by
  refine e_P (st' := [aI 5, aI u0]) (show decode (mC 136) 18 = .ok (.iconst 5, 1) by decide +kernel) rfl rfl rfl ?_
  refine e_le2 (t := 24) (show decode (mC 136) 19 = .ok (.if_icmp .le 5, 3) by decide +kernel) (by decide) s0 (by decide) (fun p1 => ?_) (fun p1 => ?_)
  · refine e_L (L' := [some (aR 1), some (aI v1)]) (st' := [aR 1]) (show decode (mC 136) 24 = .ok (.aload_n 0, 1) by decide +kernel) rfl (by show (if 1 = 0 then none else some (_, _)) = _; rw [if_neg (by decide)]) ?_
    refine e_getR (w := 124) (show decode (mC 136) 25 = .ok (.getfield 79, 3) by decide +kernel) (show pl 11 79 = some (0, 11, 11, 0) by decide +kernel) (by decide) (sh_ok hG (by decide +kernel)) (sh_rf hG (by decide +kernel)) ?_
    refine e_L (L' := [some (aR 1), some (aI v1)]) (st' := [aI v1, aR 124]) (show decode (mC 136) 28 = .ok (.iload_n 1, 1) by decide +kernel) rfl rfl ?_
    exact e_V (as := [aR 124, aI v1]) (rest := []) (show decode (mC 136) 29 = .ok (.invokevirtual 325, 3) by decide +kernel) (by decide +kernel) (show (decide ((2 : Nat) = mA 44) && decide (44 < q_law)) = true by decide +kernel) rfl (show (0 : Nat) ≤ 8 by decide) (show (2 : Nat) ≤ mL 44 by decide +kernel) rfl (sh_ok hG (by decide +kernel)) (tm_le hQ (leN (leN leE)) (m1 p1))
  · refine e_P (st' := [aI (-1)]) (show decode (mC 136) 22 = .ok (.iconst (-1), 1) by decide +kernel) rfl rfl rfl ?_
    exact e_iret (show decode (mC 136) 23 = .ok (.ireturn, 1) by decide +kernel) rfl (z2 p1)
/-- SoulOffice.most(I)I, from 32 -/
theorem b136_32 (hG : Shp G) {u0 : Int}
    (z0 : Q (.inl (some (aI u0))) (G, c)) :
    T (d + 1) 136 32 [none, none] [aI u0] (G, c) Q := by
  exact e_iret (show decode (mC 136) 32 = .ok (.ireturn, 1) by decide +kernel) rfl z0
/-- SoulOffice.gives(I)I, from 0 -/
theorem b137_0 (hG : Shp G) {v1 : Int} (hQ : ∀ o o' h', q_eqo o o' → Q o h' → Q o' h')
    (m0 : TM d 43 [aR 124, aI v1] (G, c) (fun r h' => T (d + 1) 137 8 [none, none] (r.toList ++ []) h' Q)) :
    T (d + 1) 137 0 [some (aR 1), some (aI v1)] [] (G, c) Q := by
  refine e_L (L' := [some (aR 1), some (aI v1)]) (st' := [aR 1]) (show decode (mC 137) 0 = .ok (.aload_n 0, 1) by decide +kernel) rfl (by show (if 1 = 0 then none else some (_, _)) = _; rw [if_neg (by decide)]) ?_
  refine e_getR (w := 124) (show decode (mC 137) 1 = .ok (.getfield 79, 3) by decide +kernel) (show pl 11 79 = some (0, 11, 11, 0) by decide +kernel) (by decide) (sh_ok hG (by decide +kernel)) (sh_rf hG (by decide +kernel)) ?_
  refine e_L (L' := [some (aR 1), some (aI v1)]) (st' := [aI v1, aR 124]) (show decode (mC 137) 4 = .ok (.iload_n 1, 1) by decide +kernel) rfl rfl ?_
  exact e_V (as := [aR 124, aI v1]) (rest := []) (show decode (mC 137) 5 = .ok (.invokevirtual 328, 3) by decide +kernel) (by decide +kernel) (show (decide ((2 : Nat) = mA 43) && decide (43 < q_law)) = true by decide +kernel) rfl (show (0 : Nat) ≤ 8 by decide) (show (2 : Nat) ≤ mL 43 by decide +kernel) rfl (sh_ok hG (by decide +kernel)) (tm_le hQ (leN (leN leE)) m0)
/-- SoulOffice.gives(I)I, from 8 -/
theorem b137_8 (hG : Shp G) {u0 : Int}
    (z0 : Q (.inl (some (aI u0))) (G, c)) :
    T (d + 1) 137 8 [none, none] [aI u0] (G, c) Q := by
  exact e_iret (show decode (mC 137) 8 = .ok (.ireturn, 1) by decide +kernel) rfl z0
/-- SoulOffice.hopeless(I)I, from 0 -/
theorem b138_0 (hG : Shp G) {v1 : Int}
    (k0 : T (d + 1) 138 4 [some (aR 1), some (aI v1), some (aI 0), some (aI 0), none] [] (G, c) Q) :
    T (d + 1) 138 0 [some (aR 1), some (aI v1), none, none, none] [] (G, c) Q := by
  refine e_P (st' := [aI 0]) (show decode (mC 138) 0 = .ok (.iconst 0, 1) by decide +kernel) rfl rfl rfl ?_
  refine e_L (L' := [some (aR 1), some (aI v1), some (aI 0), none, none]) (st' := []) (show decode (mC 138) 1 = .ok (.istore_n 2, 1) by decide +kernel) rfl rfl ?_
  refine e_P (st' := [aI 0]) (show decode (mC 138) 2 = .ok (.iconst 0, 1) by decide +kernel) rfl rfl rfl ?_
  refine e_L (L' := [some (aR 1), some (aI v1), some (aI 0), some (aI 0), none]) (st' := []) (show decode (mC 138) 3 = .ok (.istore_n 3, 1) by decide +kernel) rfl rfl ?_
  exact k0
/-- SoulOffice.hopeless(I)I, from 4 -/
theorem b138_4 (hG : Shp G) {v1 v2 v3 x1 : Int}
    (ex1 : c 9 1 = x1)
    (s1 : -2147483648 ≤ v3 ∧ v3 < 2147483648)
    (s2 : -2147483648 ≤ x1 ∧ x1 < 2147483648)
    (s3 : (x1 ≤ v3) → -2147483648 ≤ v1 ∧ v1 < 2147483648)
    (z4 : (x1 ≤ v3) → (¬ v1 = (-1)) → Q (.inl (some (aI (-1)))) (G, c))
    (z5 : (x1 ≤ v3) → (v1 = (-1)) → Q (.inl (some (aI v2))) (G, c))
    (k6 : (v3 < x1) → T (d + 1) 138 18 [some (aR 1), some (aI v1), some (aI v2), some (aI v3), some (aI 0)] [] (G, c) Q) :
    T (d + 1) 138 4 [some (aR 1), some (aI v1), some (aI v2), some (aI v3), none] [] (G, c) Q := by
  refine e_L (L' := [some (aR 1), some (aI v1), some (aI v2), some (aI v3), none]) (st' := [aI v3]) (show decode (mC 138) 4 = .ok (.iload_n 3, 1) by decide +kernel) rfl rfl ?_
  refine e_L (L' := [some (aR 1), some (aI v1), some (aI v2), some (aI v3), none]) (st' := [aR 1, aI v3]) (show decode (mC 138) 5 = .ok (.aload_n 0, 1) by decide +kernel) rfl (by show (if 1 = 0 then none else some (_, _)) = _; rw [if_neg (by decide)]) ?_
  refine e_getR (w := 9) (show decode (mC 138) 6 = .ok (.getfield 27, 3) by decide +kernel) (show pl 11 27 = some (0, 11, 1, 0) by decide +kernel) (by decide) (sh_ok hG (by decide +kernel)) (sh_rf hG (by decide +kernel)) ?_
  refine e_getIx (show decode (mC 138) 9 = .ok (.getfield 181, 3) by decide +kernel) (show pl 11 181 = some (0, 8, 1, 0) by decide +kernel) (by decide) (sh_ok hG (by decide +kernel)) ex1 ?_
  refine e_ge2 (t := 88) (show decode (mC 138) 12 = .ok (.if_icmp .ge 76, 3) by decide +kernel) (by decide) s1 s2 (fun p1 => ?_) (fun p1 => ?_)
  · refine e_L (L' := [some (aR 1), some (aI v1), some (aI v2), some (aI v3), none]) (st' := [aI v1]) (show decode (mC 138) 88 = .ok (.iload_n 1, 1) by decide +kernel) rfl rfl ?_
    refine e_P (st' := [aI (-1), aI v1]) (show decode (mC 138) 89 = .ok (.iconst (-1), 1) by decide +kernel) rfl rfl rfl ?_
    refine e_ne2 (t := 97) (show decode (mC 138) 90 = .ok (.if_icmp .ne 7, 3) by decide +kernel) (by decide) (s3 p1) (by decide) (fun p2 => ?_) (fun p2 => ?_)
    · refine e_P (st' := [aI (-1)]) (show decode (mC 138) 97 = .ok (.iconst (-1), 1) by decide +kernel) rfl rfl rfl ?_
      exact e_iret (show decode (mC 138) 98 = .ok (.ireturn, 1) by decide +kernel) rfl (z4 p1 p2)
    · refine e_L (L' := [some (aR 1), some (aI v1), some (aI v2), some (aI v3), none]) (st' := [aI v2]) (show decode (mC 138) 93 = .ok (.iload_n 2, 1) by decide +kernel) rfl rfl ?_
      refine e_go (t := 98) (show decode (mC 138) 94 = .ok (.goto 4, 3) by decide +kernel) (by decide) ?_
      exact e_iret (show decode (mC 138) 98 = .ok (.ireturn, 1) by decide +kernel) rfl (z5 p1 p2)
  · refine e_P (st' := [aI 0]) (show decode (mC 138) 15 = .ok (.iconst 0, 1) by decide +kernel) rfl rfl rfl ?_
    refine e_L (L' := [some (aR 1), some (aI v1), some (aI v2), some (aI v3), some (aI 0)]) (st' := []) (show decode (mC 138) 16 = .ok (.istore 4, 2) by decide +kernel) rfl rfl ?_
    exact (k6 p1)
/-- SoulOffice.hopeless(I)I, from 18 -/
theorem b138_18 (hG : Shp G) {v1 v2 v3 v4 x1 : Int} (hQ : ∀ o o' h', q_eqo o o' → Q o h' → Q o' h')
    (ex1 : c 9 1 = x1)
    (s1 : -2147483648 ≤ v4 ∧ v4 < 2147483648)
    (s2 : -2147483648 ≤ x1 ∧ x1 < 2147483648)
    (k3 : (x1 ≤ v4) → T (d + 1) 138 4 [some (aR 1), some (aI v1), some (aI v2), some (aI (v3 + 1)), none] [] (G, c) Q)
    (m4 : (v4 < x1) → TM d 151 [aI v3, aI v4] (G, c) (fun r h' => T (d + 1) 138 43 [some (aR 1), some (aI v1), some (aI v2), some (aI v3), some (aI v4)] (r.toList ++ [aR 33]) h' Q)) :
    T (d + 1) 138 18 [some (aR 1), some (aI v1), some (aI v2), some (aI v3), some (aI v4)] [] (G, c) Q := by
  refine e_L (L' := [some (aR 1), some (aI v1), some (aI v2), some (aI v3), some (aI v4)]) (st' := [aI v4]) (show decode (mC 138) 18 = .ok (.iload 4, 2) by decide +kernel) rfl rfl ?_
  refine e_L (L' := [some (aR 1), some (aI v1), some (aI v2), some (aI v3), some (aI v4)]) (st' := [aR 1, aI v4]) (show decode (mC 138) 20 = .ok (.aload_n 0, 1) by decide +kernel) rfl (by show (if 1 = 0 then none else some (_, _)) = _; rw [if_neg (by decide)]) ?_
  refine e_getR (w := 9) (show decode (mC 138) 21 = .ok (.getfield 27, 3) by decide +kernel) (show pl 11 27 = some (0, 11, 1, 0) by decide +kernel) (by decide) (sh_ok hG (by decide +kernel)) (sh_rf hG (by decide +kernel)) ?_
  refine e_getIx (show decode (mC 138) 24 = .ok (.getfield 181, 3) by decide +kernel) (show pl 11 181 = some (0, 8, 1, 0) by decide +kernel) (by decide) (sh_ok hG (by decide +kernel)) ex1 ?_
  refine e_ge2 (t := 82) (show decode (mC 138) 27 = .ok (.if_icmp .ge 55, 3) by decide +kernel) (by decide) s1 s2 (fun p1 => ?_) (fun p1 => ?_)
  · refine e_L (L' := [some (aR 1), some (aI v1), some (aI v2), some (aI (v3 + 1)), some (aI v4)]) (st' := []) (show decode (mC 138) 82 = .ok (.iinc 3 1, 3) by decide +kernel) rfl rfl ?_
    refine e_go (t := 4) (show decode (mC 138) 85 = .ok (.goto (-81), 3) by decide +kernel) (by decide) ?_
    exact T_le hQ (leS (leS (leS (leS (leN leE))))) (k3 p1)
  · refine e_L (L' := [some (aR 1), some (aI v1), some (aI v2), some (aI v3), some (aI v4)]) (st' := [aR 1]) (show decode (mC 138) 30 = .ok (.aload_n 0, 1) by decide +kernel) rfl (by show (if 1 = 0 then none else some (_, _)) = _; rw [if_neg (by decide)]) ?_
    refine e_getR (w := 27) (show decode (mC 138) 31 = .ok (.getfield 34, 3) by decide +kernel) (show pl 11 34 = some (0, 11, 3, 0) by decide +kernel) (by decide) (sh_ok hG (by decide +kernel)) (sh_rf hG (by decide +kernel)) ?_
    refine e_getR (w := 33) (show decode (mC 138) 34 = .ok (.getfield 243, 3) by decide +kernel) (show pl 11 243 = some (0, 4, 9, 0) by decide +kernel) (by decide) (sh_ok hG (by decide +kernel)) (sh_rf hG (by decide +kernel)) ?_
    refine e_L (L' := [some (aR 1), some (aI v1), some (aI v2), some (aI v3), some (aI v4)]) (st' := [aI v3, aR 33]) (show decode (mC 138) 37 = .ok (.iload_n 3, 1) by decide +kernel) rfl rfl ?_
    refine e_L (L' := [some (aR 1), some (aI v1), some (aI v2), some (aI v3), some (aI v4)]) (st' := [aI v4, aI v3, aR 33]) (show decode (mC 138) 38 = .ok (.iload 4, 2) by decide +kernel) rfl rfl ?_
    exact e_S (as := [aI v3, aI v4]) (rest := [aR 33]) (show decode (mC 138) 40 = .ok (.invokestatic 246, 3) by decide +kernel) (by decide +kernel) (show (decide ((2 : Nat) = mA 151) && decide (151 < q_law)) = true by decide +kernel) rfl (show (1 : Nat) ≤ 8 by decide) (show (2 : Nat) ≤ mL 151 by decide +kernel) (m4 p1)
/-- SoulOffice.hopeless(I)I, from 43 -/
theorem b138_43 (hG : Shp G) {v1 v2 v3 v4 u1 x1 : Int}
    (s0 : 0 ≤ u1)
    (s1 : u1 < 64)
    (ex1 : c 33 u1 = x1)
    (s3 : -2147483648 ≤ x1 ∧ x1 < 2147483648)
    (k4 : (x1 ≤ 0) → T (d + 1) 138 18 [some (aR 1), some (aI v1), some (aI v2), some (aI v3), some (aI (v4 + 1))] [] (G, c) Q)
    (m5 : (0 < x1) → TM d 73 [aR 9, aI v3, aI v4] (G, c) (fun r h' => T (d + 1) 138 57 [some (aR 1), some (aI v1), some (aI v2), some (aI v3), some (aI v4)] (r.toList ++ []) h' Q)) :
    T (d + 1) 138 43 [some (aR 1), some (aI v1), some (aI v2), some (aI v3), some (aI v4)] [aI u1, aR 33] (G, c) Q := by
  refine e_ialdx (n := 64) (show decode (mC 138) 43 = .ok (.iaload, 1) by decide +kernel) (sh_ok hG (by decide +kernel)) (sh_ln hG (by decide +kernel)) (by decide) s0 s1 ex1 ?_
  refine e_le1 (t := 76) (show decode (mC 138) 44 = .ok (.ifCond .le 32, 3) by decide +kernel) (by decide) s3 (fun p1 => ?_) (fun p1 => ?_)
  · refine e_L (L' := [some (aR 1), some (aI v1), some (aI v2), some (aI v3), some (aI (v4 + 1))]) (st' := []) (show decode (mC 138) 76 = .ok (.iinc 4 1, 3) by decide +kernel) rfl rfl ?_
    refine e_go (t := 18) (show decode (mC 138) 79 = .ok (.goto (-61), 3) by decide +kernel) (by decide) ?_
    exact (k4 p1)
  · refine e_L (L' := [some (aR 1), some (aI v1), some (aI v2), some (aI v3), some (aI v4)]) (st' := [aR 1]) (show decode (mC 138) 47 = .ok (.aload_n 0, 1) by decide +kernel) rfl (by show (if 1 = 0 then none else some (_, _)) = _; rw [if_neg (by decide)]) ?_
    refine e_getR (w := 9) (show decode (mC 138) 48 = .ok (.getfield 27, 3) by decide +kernel) (show pl 11 27 = some (0, 11, 1, 0) by decide +kernel) (by decide) (sh_ok hG (by decide +kernel)) (sh_rf hG (by decide +kernel)) ?_
    refine e_L (L' := [some (aR 1), some (aI v1), some (aI v2), some (aI v3), some (aI v4)]) (st' := [aI v3, aR 9]) (show decode (mC 138) 51 = .ok (.iload_n 3, 1) by decide +kernel) rfl rfl ?_
    refine e_L (L' := [some (aR 1), some (aI v1), some (aI v2), some (aI v3), some (aI v4)]) (st' := [aI v4, aI v3, aR 9]) (show decode (mC 138) 52 = .ok (.iload 4, 2) by decide +kernel) rfl rfl ?_
    exact e_V (as := [aR 9, aI v3, aI v4]) (rest := []) (show decode (mC 138) 54 = .ok (.invokevirtual 331, 3) by decide +kernel) (by decide +kernel) (show (decide ((3 : Nat) = mA 73) && decide (73 < q_law)) = true by decide +kernel) rfl (show (0 : Nat) ≤ 8 by decide) (show (3 : Nat) ≤ mL 73 by decide +kernel) rfl (sh_ok hG (by decide +kernel)) (m5 p1)
/-- SoulOffice.hopeless(I)I, from 57 -/
theorem b138_57 (hG : Shp G) {v1 v2 v3 v4 u0 : Int}
    (s0 : -2147483648 ≤ u0 ∧ u0 < 2147483648)
    (k1 : (¬ u0 = 0) → T (d + 1) 138 18 [some (aR 1), some (aI v1), some (aI v2), some (aI v3), some (aI (v4 + 1))] [] (G, c) Q)
    (s2 : (u0 = 0) → -2147483648 ≤ v2 ∧ v2 < 2147483648)
    (s3 : (u0 = 0) → -2147483648 ≤ v1 ∧ v1 < 2147483648)
    (k4 : (u0 = 0) → (¬ v2 = v1) → T (d + 1) 138 18 [some (aR 1), some (aI v1), some (aI (v2 + 1)), some (aI v3), some (aI (v4 + 1))] [] (G, c) Q)
    (z5 : (u0 = 0) → (v2 = v1) → Q (.inl (some (aI ((10 * v3) + v4)))) (G, c)) :
    T (d + 1) 138 57 [some (aR 1), some (aI v1), some (aI v2), some (aI v3), some (aI v4)] [aI u0] (G, c) Q := by
  refine e_ne1 (t := 76) (show decode (mC 138) 57 = .ok (.ifCond .ne 19, 3) by decide +kernel) (by decide) s0 (fun p1 => ?_) (fun p1 => ?_)
  · refine e_L (L' := [some (aR 1), some (aI v1), some (aI v2), some (aI v3), some (aI (v4 + 1))]) (st' := []) (show decode (mC 138) 76 = .ok (.iinc 4 1, 3) by decide +kernel) rfl rfl ?_
    refine e_go (t := 18) (show decode (mC 138) 79 = .ok (.goto (-61), 3) by decide +kernel) (by decide) ?_
    exact (k1 p1)
  · refine e_L (L' := [some (aR 1), some (aI v1), some (aI v2), some (aI v3), some (aI v4)]) (st' := [aI v2]) (show decode (mC 138) 60 = .ok (.iload_n 2, 1) by decide +kernel) rfl rfl ?_
    refine e_L (L' := [some (aR 1), some (aI v1), some (aI v2), some (aI v3), some (aI v4)]) (st' := [aI v1, aI v2]) (show decode (mC 138) 61 = .ok (.iload_n 1, 1) by decide +kernel) rfl rfl ?_
    refine e_ne2 (t := 73) (show decode (mC 138) 62 = .ok (.if_icmp .ne 11, 3) by decide +kernel) (by decide) (s2 p1) (s3 p1) (fun p2 => ?_) (fun p2 => ?_)
    · refine e_L (L' := [some (aR 1), some (aI v1), some (aI (v2 + 1)), some (aI v3), some (aI v4)]) (st' := []) (show decode (mC 138) 73 = .ok (.iinc 2 1, 3) by decide +kernel) rfl rfl ?_
      refine e_L (L' := [some (aR 1), some (aI v1), some (aI (v2 + 1)), some (aI v3), some (aI (v4 + 1))]) (st' := []) (show decode (mC 138) 76 = .ok (.iinc 4 1, 3) by decide +kernel) rfl rfl ?_
      refine e_go (t := 18) (show decode (mC 138) 79 = .ok (.goto (-61), 3) by decide +kernel) (by decide) ?_
      exact (k4 p1 p2)
    · refine e_P (st' := [aI 10]) (show decode (mC 138) 65 = .ok (.bipush 10, 2) by decide +kernel) rfl rfl rfl ?_
      refine e_L (L' := [some (aR 1), some (aI v1), some (aI v2), some (aI v3), some (aI v4)]) (st' := [aI v3, aI 10]) (show decode (mC 138) 67 = .ok (.iload_n 3, 1) by decide +kernel) rfl rfl ?_
      refine e_P (st' := [aI (10 * v3)]) (show decode (mC 138) 68 = .ok (.imul, 1) by decide +kernel) rfl rfl rfl ?_
      refine e_L (L' := [some (aR 1), some (aI v1), some (aI v2), some (aI v3), some (aI v4)]) (st' := [aI v4, aI (10 * v3)]) (show decode (mC 138) 69 = .ok (.iload 4, 2) by decide +kernel) rfl rfl ?_
      refine e_P (st' := [aI ((10 * v3) + v4)]) (show decode (mC 138) 71 = .ok (.iadd, 1) by decide +kernel) rfl rfl rfl ?_
      exact e_iret (show decode (mC 138) 72 = .ok (.ireturn, 1) by decide +kernel) rfl (z5 p1 p2)
/-- SoulOffice.net(I)I, from 0 -/
theorem b139_0 (hG : Shp G) {v1 : Int}
    (m0 : TM d 71 [aR 9, aI v1] (G, c) (fun r h' => T (d + 1) 139 8 [some (aR 1), some (aI v1)] (r.toList ++ []) h' Q)) :
    T (d + 1) 139 0 [some (aR 1), some (aI v1)] [] (G, c) Q := by
  refine e_L (L' := [some (aR 1), some (aI v1)]) (st' := [aR 1]) (show decode (mC 139) 0 = .ok (.aload_n 0, 1) by decide +kernel) rfl (by show (if 1 = 0 then none else some (_, _)) = _; rw [if_neg (by decide)]) ?_
  refine e_getR (w := 9) (show decode (mC 139) 1 = .ok (.getfield 27, 3) by decide +kernel) (show pl 11 27 = some (0, 11, 1, 0) by decide +kernel) (by decide) (sh_ok hG (by decide +kernel)) (sh_rf hG (by decide +kernel)) ?_
  refine e_L (L' := [some (aR 1), some (aI v1)]) (st' := [aI v1, aR 9]) (show decode (mC 139) 4 = .ok (.iload_n 1, 1) by decide +kernel) rfl rfl ?_
  exact e_V (as := [aR 9, aI v1]) (rest := []) (show decode (mC 139) 5 = .ok (.invokevirtual 213, 3) by decide +kernel) (by decide +kernel) (show (decide ((2 : Nat) = mA 71) && decide (71 < q_law)) = true by decide +kernel) rfl (show (0 : Nat) ≤ 8 by decide) (show (2 : Nat) ≤ mL 71 by decide +kernel) rfl (sh_ok hG (by decide +kernel)) m0
/-- SoulOffice.net(I)I, from 8 -/
theorem b139_8 (hG : Shp G) {v1 u0 : Int}
    (s0 : -2147483648 ≤ u0 ∧ u0 < 2147483648)
    (m1 : (¬ u0 = 0) → TM d 23 [aR 27, aI v1] (G, c) (fun r h' => T (d + 1) 139 27 [some (aR 1), some (aI v1)] (r.toList ++ []) h' Q))
    (z2 : (u0 = 0) → Q (.inr (11, [some (aR 1), some (aI v1)])) (G, c)) :
    T (d + 1) 139 8 [some (aR 1), some (aI v1)] [aI u0] (G, c) Q := by
  refine e_ne1 (t := 19) (show decode (mC 139) 8 = .ok (.ifCond .ne 11, 3) by decide +kernel) (by decide) s0 (fun p1 => ?_) (fun p1 => ?_)
  · refine e_L (L' := [some (aR 1), some (aI v1)]) (st' := [aR 1]) (show decode (mC 139) 19 = .ok (.aload_n 0, 1) by decide +kernel) rfl (by show (if 1 = 0 then none else some (_, _)) = _; rw [if_neg (by decide)]) ?_
    refine e_getR (w := 27) (show decode (mC 139) 20 = .ok (.getfield 34, 3) by decide +kernel) (show pl 11 34 = some (0, 11, 3, 0) by decide +kernel) (by decide) (sh_ok hG (by decide +kernel)) (sh_rf hG (by decide +kernel)) ?_
    refine e_L (L' := [some (aR 1), some (aI v1)]) (st' := [aI v1, aR 27]) (show decode (mC 139) 23 = .ok (.iload_n 1, 1) by decide +kernel) rfl rfl ?_
    exact e_V (as := [aR 27, aI v1]) (rest := []) (show decode (mC 139) 24 = .ok (.invokevirtual 237, 3) by decide +kernel) (by decide +kernel) (show (decide ((2 : Nat) = mA 23) && decide (23 < q_law)) = true by decide +kernel) rfl (show (0 : Nat) ≤ 8 by decide) (show (2 : Nat) ≤ mL 23 by decide +kernel) rfl (sh_ok hG (by decide +kernel)) (m1 p1)
  · exact e_X (show decode (mC 139) 11 = .ok (.new 216, 3) by decide +kernel) (by decide +kernel) (by decide +kernel) (z2 p1)
/-- SoulOffice.net(I)I, from 27 -/
theorem b139_27 (hG : Shp G) {v1 u0 : Int} (hQ : ∀ o o' h', q_eqo o o' → Q o h' → Q o' h')
    (m0 : TM d 22 [aR 27, aI v1] (G, c) (fun r h' => T (d + 1) 139 35 [none, none] (r.toList ++ [aI u0]) h' Q)) :
    T (d + 1) 139 27 [some (aR 1), some (aI v1)] [aI u0] (G, c) Q := by
  refine e_L (L' := [some (aR 1), some (aI v1)]) (st' := [aR 1, aI u0]) (show decode (mC 139) 27 = .ok (.aload_n 0, 1) by decide +kernel) rfl (by show (if 1 = 0 then none else some (_, _)) = _; rw [if_neg (by decide)]) ?_
  refine e_getR (w := 27) (show decode (mC 139) 28 = .ok (.getfield 34, 3) by decide +kernel) (show pl 11 34 = some (0, 11, 3, 0) by decide +kernel) (by decide) (sh_ok hG (by decide +kernel)) (sh_rf hG (by decide +kernel)) ?_
  refine e_L (L' := [some (aR 1), some (aI v1)]) (st' := [aI v1, aR 27, aI u0]) (show decode (mC 139) 31 = .ok (.iload_n 1, 1) by decide +kernel) rfl rfl ?_
  exact e_V (as := [aR 27, aI v1]) (rest := [aI u0]) (show decode (mC 139) 32 = .ok (.invokevirtual 234, 3) by decide +kernel) (by decide +kernel) (show (decide ((2 : Nat) = mA 22) && decide (22 < q_law)) = true by decide +kernel) rfl (show (1 : Nat) ≤ 8 by decide) (show (2 : Nat) ≤ mL 22 by decide +kernel) rfl (sh_ok hG (by decide +kernel)) (tm_le hQ (leN (leN leE)) m0)
/-- SoulOffice.net(I)I, from 35 -/
theorem b139_35 (hG : Shp G) {u0 u1 : Int}
    (z0 : Q (.inl (some (aI (u0 - u1)))) (G, c)) :
    T (d + 1) 139 35 [none, none] [aI u1, aI u0] (G, c) Q := by
  refine e_P (st' := [aI (u0 - u1)]) (show decode (mC 139) 35 = .ok (.isub, 1) by decide +kernel) rfl rfl rfl ?_
  exact e_iret (show decode (mC 139) 36 = .ok (.ireturn, 1) by decide +kernel) rfl z0
/-- SoulOffice.fewest()I, from 0 -/
theorem b140_0 (hG : Shp G)
    (m0 : TM d 56 [aR 136] (G, c) (fun r h' => T (d + 1) 140 7 [some (aR 1), none] (r.toList ++ []) h' Q)) :
    T (d + 1) 140 0 [some (aR 1), none] [] (G, c) Q := by
  refine e_L (L' := [some (aR 1), none]) (st' := [aR 1]) (show decode (mC 140) 0 = .ok (.aload_n 0, 1) by decide +kernel) rfl (by show (if 1 = 0 then none else some (_, _)) = _; rw [if_neg (by decide)]) ?_
  refine e_getR (w := 136) (show decode (mC 140) 1 = .ok (.getfield 93, 3) by decide +kernel) (show pl 11 93 = some (0, 11, 13, 0) by decide +kernel) (by decide) (sh_ok hG (by decide +kernel)) (sh_rf hG (by decide +kernel)) ?_
  exact e_V (as := [aR 136]) (rest := []) (show decode (mC 140) 4 = .ok (.invokevirtual 335, 3) by decide +kernel) (by decide +kernel) (show (decide ((1 : Nat) = mA 56) && decide (56 < q_law)) = true by decide +kernel) rfl (show (0 : Nat) ≤ 8 by decide) (show (1 : Nat) ≤ mL 56 by decide +kernel) rfl (sh_ok hG (by decide +kernel)) m0
/-- SoulOffice.fewest()I, from 7 -/
theorem b140_7 (hG : Shp G) {u0 x1 : Int}
    (ex1 : c 136 5 = x1)
    (z1 : Q (.inl (some (aI (x1 - u0)))) (G, c)) :
    T (d + 1) 140 7 [some (aR 1), none] [aI u0] (G, c) Q := by
  refine e_L (L' := [some (aR 1), some (aI u0)]) (st' := []) (show decode (mC 140) 7 = .ok (.istore_n 1, 1) by decide +kernel) rfl rfl ?_
  refine e_L (L' := [some (aR 1), some (aI u0)]) (st' := [aR 1]) (show decode (mC 140) 8 = .ok (.aload_n 0, 1) by decide +kernel) rfl (by show (if 1 = 0 then none else some (_, _)) = _; rw [if_neg (by decide)]) ?_
  refine e_getR (w := 136) (show decode (mC 140) 9 = .ok (.getfield 93, 3) by decide +kernel) (show pl 11 93 = some (0, 11, 13, 0) by decide +kernel) (by decide) (sh_ok hG (by decide +kernel)) (sh_rf hG (by decide +kernel)) ?_
  refine e_getIx (show decode (mC 140) 12 = .ok (.getfield 338, 3) by decide +kernel) (show pl 11 338 = some (0, 6, 5, 0) by decide +kernel) (by decide) (sh_ok hG (by decide +kernel)) ex1 ?_
  refine e_L (L' := [some (aR 1), some (aI u0)]) (st' := [aI u0, aI x1]) (show decode (mC 140) 15 = .ok (.iload_n 1, 1) by decide +kernel) rfl rfl ?_
  refine e_P (st' := [aI (x1 - u0)]) (show decode (mC 140) 16 = .ok (.isub, 1) by decide +kernel) rfl rfl rfl ?_
  exact e_iret (show decode (mC 140) 17 = .ok (.ireturn, 1) by decide +kernel) rfl z1
/-- SoulOffice.groups()I, from 0 -/
theorem b141_0 (hG : Shp G) (hQ : ∀ o o' h', q_eqo o o' → Q o h' → Q o' h')
    (m0 : TM d 56 [aR 136] (G, c) (fun r h' => T (d + 1) 141 7 [none] (r.toList ++ []) h' Q)) :
    T (d + 1) 141 0 [some (aR 1)] [] (G, c) Q := by
  refine e_L (L' := [some (aR 1)]) (st' := [aR 1]) (show decode (mC 141) 0 = .ok (.aload_n 0, 1) by decide +kernel) rfl (by show (if 1 = 0 then none else some (_, _)) = _; rw [if_neg (by decide)]) ?_
  refine e_getR (w := 136) (show decode (mC 141) 1 = .ok (.getfield 93, 3) by decide +kernel) (show pl 11 93 = some (0, 11, 13, 0) by decide +kernel) (by decide) (sh_ok hG (by decide +kernel)) (sh_rf hG (by decide +kernel)) ?_
  exact e_V (as := [aR 136]) (rest := []) (show decode (mC 141) 4 = .ok (.invokevirtual 335, 3) by decide +kernel) (by decide +kernel) (show (decide ((1 : Nat) = mA 56) && decide (56 < q_law)) = true by decide +kernel) rfl (show (0 : Nat) ≤ 8 by decide) (show (1 : Nat) ≤ mL 56 by decide +kernel) rfl (sh_ok hG (by decide +kernel)) (tm_le hQ (leN leE) m0)
/-- SoulOffice.groups()I, from 7 -/
theorem b141_7 (hG : Shp G) {u0 : Int}
    (z0 : Q (.inl (some (aI u0))) (G, c)) :
    T (d + 1) 141 7 [none] [aI u0] (G, c) Q := by
  exact e_iret (show decode (mC 141) 7 = .ok (.ireturn, 1) by decide +kernel) rfl z0
/-- SoulOffice.were(II)I, from 0 -/
theorem b142_0 (hG : Shp G) {v1 v2 x1 x2 : Int}
    (ex1 : c 2 1 = x1)
    (s1 : -2147483648 ≤ x1 ∧ x1 < 2147483648)
    (z2 : (x1 < 1) → Q (.inl (some (aI (-1)))) (G, (q_up c 2 1 0)))
    (ex2 : c 2 1 = x2)
    (s4 : (1 ≤ x1) → -2147483648 ≤ x2 ∧ x2 < 2147483648)
    (z5 : (1 ≤ x1) → (30 < x2) → Q (.inl (some (aI (-1)))) (G, (q_up c 2 1 0)))
    (m6 : (1 ≤ x1) → (x2 ≤ 30) → TM d 71 [aR 9, aI v1] (G, c) (fun r h' => T (d + 1) 142 31 [some (aR 1), some (aI v1), some (aI v2), none, none] (r.toList ++ []) h' Q)) :
    T (d + 1) 142 0 [some (aR 1), some (aI v1), some (aI v2), none, none] [] (G, c) Q := by
  refine e_L (L' := [some (aR 1), some (aI v1), some (aI v2), none, none]) (st' := [aR 1]) (show decode (mC 142) 0 = .ok (.aload_n 0, 1) by decide +kernel) rfl (by show (if 1 = 0 then none else some (_, _)) = _; rw [if_neg (by decide)]) ?_
  refine e_getR (w := 2) (show decode (mC 142) 1 = .ok (.getfield 21, 3) by decide +kernel) (show pl 11 21 = some (0, 11, 0, 0) by decide +kernel) (by decide) (sh_ok hG (by decide +kernel)) (sh_rf hG (by decide +kernel)) ?_
  refine e_getIx (show decode (mC 142) 4 = .ok (.getfield 108, 3) by decide +kernel) (show pl 11 108 = some (0, 10, 1, 0) by decide +kernel) (by decide) (sh_ok hG (by decide +kernel)) ex1 ?_
  refine e_P (st' := [aI 1, aI x1]) (show decode (mC 142) 7 = .ok (.iconst 1, 1) by decide +kernel) rfl rfl rfl ?_
  refine e_lt2 (t := 54) (show decode (mC 142) 8 = .ok (.if_icmp .lt 46, 3) by decide +kernel) (by decide) s1 (by decide) (fun p1 => ?_) (fun p1 => ?_)
  · refine e_P (st' := [aI 0]) (show decode (mC 142) 54 = .ok (.iconst 0, 1) by decide +kernel) rfl rfl rfl ?_
    refine e_L (L' := [some (aR 1), some (aI v1), some (aI v2), some (aI 0), none]) (st' := []) (show decode (mC 142) 55 = .ok (.istore_n 3, 1) by decide +kernel) rfl rfl ?_
    refine e_L (L' := [some (aR 1), some (aI v1), some (aI v2), some (aI 0), none]) (st' := [aI 0]) (show decode (mC 142) 56 = .ok (.iload_n 3, 1) by decide +kernel) rfl rfl ?_
    refine e_eq1 (t := 69) (show decode (mC 142) 57 = .ok (.ifCond .eq 12, 3) by decide +kernel) (by decide) (by decide) (fun _ => ?_) (fun h => absurd h (by decide))
    refine e_P (st' := [aI (-1)]) (show decode (mC 142) 69 = .ok (.iconst (-1), 1) by decide +kernel) rfl rfl rfl ?_
    refine e_L (L' := [some (aR 1), some (aI v1), some (aI v2), some (aI 0), some (aI (-1))]) (st' := []) (show decode (mC 142) 70 = .ok (.istore 4, 2) by decide +kernel) rfl rfl ?_
    refine e_L (L' := [some (aR 1), some (aI v1), some (aI v2), some (aI 0), some (aI (-1))]) (st' := [aR 1]) (show decode (mC 142) 72 = .ok (.aload_n 0, 1) by decide +kernel) rfl (by show (if 1 = 0 then none else some (_, _)) = _; rw [if_neg (by decide)]) ?_
    refine e_getR (w := 2) (show decode (mC 142) 73 = .ok (.getfield 21, 3) by decide +kernel) (show pl 11 21 = some (0, 11, 0, 0) by decide +kernel) (by decide) (sh_ok hG (by decide +kernel)) (sh_rf hG (by decide +kernel)) ?_
    refine e_P (st' := [aI 0, aR 2]) (show decode (mC 142) 76 = .ok (.iconst 0, 1) by decide +kernel) rfl rfl rfl ?_
    refine e_putI (show decode (mC 142) 77 = .ok (.putfield 108, 3) by decide +kernel) (show pl 11 108 = some (0, 10, 1, 0) by decide +kernel) (by decide) (sh_ok hG (by decide +kernel)) ?_
    refine e_L (L' := [some (aR 1), some (aI v1), some (aI v2), some (aI 0), some (aI (-1))]) (st' := [aI (-1)]) (show decode (mC 142) 80 = .ok (.iload 4, 2) by decide +kernel) rfl rfl ?_
    exact e_iret (show decode (mC 142) 82 = .ok (.ireturn, 1) by decide +kernel) rfl (z2 p1)
  · refine e_L (L' := [some (aR 1), some (aI v1), some (aI v2), none, none]) (st' := [aR 1]) (show decode (mC 142) 11 = .ok (.aload_n 0, 1) by decide +kernel) rfl (by show (if 1 = 0 then none else some (_, _)) = _; rw [if_neg (by decide)]) ?_
    refine e_getR (w := 2) (show decode (mC 142) 12 = .ok (.getfield 21, 3) by decide +kernel) (show pl 11 21 = some (0, 11, 0, 0) by decide +kernel) (by decide) (sh_ok hG (by decide +kernel)) (sh_rf hG (by decide +kernel)) ?_
    refine e_getIx (show decode (mC 142) 15 = .ok (.getfield 108, 3) by decide +kernel) (show pl 11 108 = some (0, 10, 1, 0) by decide +kernel) (by decide) (sh_ok hG (by decide +kernel)) ex2 ?_
    refine e_P (st' := [aI 30, aI x2]) (show decode (mC 142) 18 = .ok (.bipush 30, 2) by decide +kernel) rfl rfl rfl ?_
    refine e_gt2 (t := 54) (show decode (mC 142) 20 = .ok (.if_icmp .gt 34, 3) by decide +kernel) (by decide) (s4 p1) (by decide) (fun p2 => ?_) (fun p2 => ?_)
    · refine e_P (st' := [aI 0]) (show decode (mC 142) 54 = .ok (.iconst 0, 1) by decide +kernel) rfl rfl rfl ?_
      refine e_L (L' := [some (aR 1), some (aI v1), some (aI v2), some (aI 0), none]) (st' := []) (show decode (mC 142) 55 = .ok (.istore_n 3, 1) by decide +kernel) rfl rfl ?_
      refine e_L (L' := [some (aR 1), some (aI v1), some (aI v2), some (aI 0), none]) (st' := [aI 0]) (show decode (mC 142) 56 = .ok (.iload_n 3, 1) by decide +kernel) rfl rfl ?_
      refine e_eq1 (t := 69) (show decode (mC 142) 57 = .ok (.ifCond .eq 12, 3) by decide +kernel) (by decide) (by decide) (fun _ => ?_) (fun h => absurd h (by decide))
      refine e_P (st' := [aI (-1)]) (show decode (mC 142) 69 = .ok (.iconst (-1), 1) by decide +kernel) rfl rfl rfl ?_
      refine e_L (L' := [some (aR 1), some (aI v1), some (aI v2), some (aI 0), some (aI (-1))]) (st' := []) (show decode (mC 142) 70 = .ok (.istore 4, 2) by decide +kernel) rfl rfl ?_
      refine e_L (L' := [some (aR 1), some (aI v1), some (aI v2), some (aI 0), some (aI (-1))]) (st' := [aR 1]) (show decode (mC 142) 72 = .ok (.aload_n 0, 1) by decide +kernel) rfl (by show (if 1 = 0 then none else some (_, _)) = _; rw [if_neg (by decide)]) ?_
      refine e_getR (w := 2) (show decode (mC 142) 73 = .ok (.getfield 21, 3) by decide +kernel) (show pl 11 21 = some (0, 11, 0, 0) by decide +kernel) (by decide) (sh_ok hG (by decide +kernel)) (sh_rf hG (by decide +kernel)) ?_
      refine e_P (st' := [aI 0, aR 2]) (show decode (mC 142) 76 = .ok (.iconst 0, 1) by decide +kernel) rfl rfl rfl ?_
      refine e_putI (show decode (mC 142) 77 = .ok (.putfield 108, 3) by decide +kernel) (show pl 11 108 = some (0, 10, 1, 0) by decide +kernel) (by decide) (sh_ok hG (by decide +kernel)) ?_
      refine e_L (L' := [some (aR 1), some (aI v1), some (aI v2), some (aI 0), some (aI (-1))]) (st' := [aI (-1)]) (show decode (mC 142) 80 = .ok (.iload 4, 2) by decide +kernel) rfl rfl ?_
      exact e_iret (show decode (mC 142) 82 = .ok (.ireturn, 1) by decide +kernel) rfl (z5 p1 p2)
    · refine e_L (L' := [some (aR 1), some (aI v1), some (aI v2), none, none]) (st' := [aR 1]) (show decode (mC 142) 23 = .ok (.aload_n 0, 1) by decide +kernel) rfl (by show (if 1 = 0 then none else some (_, _)) = _; rw [if_neg (by decide)]) ?_
      refine e_getR (w := 9) (show decode (mC 142) 24 = .ok (.getfield 27, 3) by decide +kernel) (show pl 11 27 = some (0, 11, 1, 0) by decide +kernel) (by decide) (sh_ok hG (by decide +kernel)) (sh_rf hG (by decide +kernel)) ?_
      refine e_L (L' := [some (aR 1), some (aI v1), some (aI v2), none, none]) (st' := [aI v1, aR 9]) (show decode (mC 142) 27 = .ok (.iload_n 1, 1) by decide +kernel) rfl rfl ?_
      exact e_V (as := [aR 9, aI v1]) (rest := []) (show decode (mC 142) 28 = .ok (.invokevirtual 213, 3) by decide +kernel) (by decide +kernel) (show (decide ((2 : Nat) = mA 71) && decide (71 < q_law)) = true by decide +kernel) rfl (show (0 : Nat) ≤ 8 by decide) (show (2 : Nat) ≤ mL 71 by decide +kernel) rfl (sh_ok hG (by decide +kernel)) (m6 p1 p2)
/-- SoulOffice.were(II)I, from 31 -/
theorem b142_31 (hG : Shp G) {v1 v2 u0 : Int}
    (s0 : -2147483648 ≤ u0 ∧ u0 < 2147483648)
    (z1 : (u0 = 0) → Q (.inl (some (aI (-1)))) (G, (q_up c 2 1 0)))
    (m2 : (¬ u0 = 0) → TM d 71 [aR 9, aI v2] (G, c) (fun r h' => T (d + 1) 142 42 [some (aR 1), some (aI v1), some (aI v2), none, none] (r.toList ++ []) h' Q)) :
    T (d + 1) 142 31 [some (aR 1), some (aI v1), some (aI v2), none, none] [aI u0] (G, c) Q := by
  refine e_eq1 (t := 54) (show decode (mC 142) 31 = .ok (.ifCond .eq 23, 3) by decide +kernel) (by decide) s0 (fun p1 => ?_) (fun p1 => ?_)
  · refine e_P (st' := [aI 0]) (show decode (mC 142) 54 = .ok (.iconst 0, 1) by decide +kernel) rfl rfl rfl ?_
    refine e_L (L' := [some (aR 1), some (aI v1), some (aI v2), some (aI 0), none]) (st' := []) (show decode (mC 142) 55 = .ok (.istore_n 3, 1) by decide +kernel) rfl rfl ?_
    refine e_L (L' := [some (aR 1), some (aI v1), some (aI v2), some (aI 0), none]) (st' := [aI 0]) (show decode (mC 142) 56 = .ok (.iload_n 3, 1) by decide +kernel) rfl rfl ?_
    refine e_eq1 (t := 69) (show decode (mC 142) 57 = .ok (.ifCond .eq 12, 3) by decide +kernel) (by decide) (by decide) (fun _ => ?_) (fun h => absurd h (by decide))
    refine e_P (st' := [aI (-1)]) (show decode (mC 142) 69 = .ok (.iconst (-1), 1) by decide +kernel) rfl rfl rfl ?_
    refine e_L (L' := [some (aR 1), some (aI v1), some (aI v2), some (aI 0), some (aI (-1))]) (st' := []) (show decode (mC 142) 70 = .ok (.istore 4, 2) by decide +kernel) rfl rfl ?_
    refine e_L (L' := [some (aR 1), some (aI v1), some (aI v2), some (aI 0), some (aI (-1))]) (st' := [aR 1]) (show decode (mC 142) 72 = .ok (.aload_n 0, 1) by decide +kernel) rfl (by show (if 1 = 0 then none else some (_, _)) = _; rw [if_neg (by decide)]) ?_
    refine e_getR (w := 2) (show decode (mC 142) 73 = .ok (.getfield 21, 3) by decide +kernel) (show pl 11 21 = some (0, 11, 0, 0) by decide +kernel) (by decide) (sh_ok hG (by decide +kernel)) (sh_rf hG (by decide +kernel)) ?_
    refine e_P (st' := [aI 0, aR 2]) (show decode (mC 142) 76 = .ok (.iconst 0, 1) by decide +kernel) rfl rfl rfl ?_
    refine e_putI (show decode (mC 142) 77 = .ok (.putfield 108, 3) by decide +kernel) (show pl 11 108 = some (0, 10, 1, 0) by decide +kernel) (by decide) (sh_ok hG (by decide +kernel)) ?_
    refine e_L (L' := [some (aR 1), some (aI v1), some (aI v2), some (aI 0), some (aI (-1))]) (st' := [aI (-1)]) (show decode (mC 142) 80 = .ok (.iload 4, 2) by decide +kernel) rfl rfl ?_
    exact e_iret (show decode (mC 142) 82 = .ok (.ireturn, 1) by decide +kernel) rfl (z1 p1)
  · refine e_L (L' := [some (aR 1), some (aI v1), some (aI v2), none, none]) (st' := [aR 1]) (show decode (mC 142) 34 = .ok (.aload_n 0, 1) by decide +kernel) rfl (by show (if 1 = 0 then none else some (_, _)) = _; rw [if_neg (by decide)]) ?_
    refine e_getR (w := 9) (show decode (mC 142) 35 = .ok (.getfield 27, 3) by decide +kernel) (show pl 11 27 = some (0, 11, 1, 0) by decide +kernel) (by decide) (sh_ok hG (by decide +kernel)) (sh_rf hG (by decide +kernel)) ?_
    refine e_L (L' := [some (aR 1), some (aI v1), some (aI v2), none, none]) (st' := [aI v2, aR 9]) (show decode (mC 142) 38 = .ok (.iload_n 2, 1) by decide +kernel) rfl rfl ?_
    exact e_V (as := [aR 9, aI v2]) (rest := []) (show decode (mC 142) 39 = .ok (.invokevirtual 213, 3) by decide +kernel) (by decide +kernel) (show (decide ((2 : Nat) = mA 71) && decide (71 < q_law)) = true by decide +kernel) rfl (show (0 : Nat) ≤ 8 by decide) (show (2 : Nat) ≤ mL 71 by decide +kernel) rfl (sh_ok hG (by decide +kernel)) (m2 p1)
/-- SoulOffice.were(II)I, from 42 -/
theorem b142_42 (hG : Shp G) {v1 v2 u0 : Int} (hQ : ∀ o o' h', q_eqo o o' → Q o h' → Q o' h')
    (s0 : -2147483648 ≤ u0 ∧ u0 < 2147483648)
    (z1 : (u0 = 0) → Q (.inl (some (aI (-1)))) (G, (q_up c 2 1 0)))
    (s2 : (¬ u0 = 0) → -2147483648 ≤ v1 ∧ v1 < 2147483648)
    (s3 : (¬ u0 = 0) → -2147483648 ≤ v2 ∧ v2 < 2147483648)
    (z4 : (¬ u0 = 0) → (v1 = v2) → Q (.inl (some (aI (-1)))) (G, (q_up c 2 1 0)))
    (m5 : (¬ u0 = 0) → (¬ v1 = v2) → TM d 148 [aR 1, aI v1, aI v2] (G, c) (fun r h' => T (d + 1) 142 66 [some (aR 1), none, none, none, none] (r.toList ++ []) h' Q)) :
    T (d + 1) 142 42 [some (aR 1), some (aI v1), some (aI v2), none, none] [aI u0] (G, c) Q := by
  refine e_eq1 (t := 54) (show decode (mC 142) 42 = .ok (.ifCond .eq 12, 3) by decide +kernel) (by decide) s0 (fun p1 => ?_) (fun p1 => ?_)
  · refine e_P (st' := [aI 0]) (show decode (mC 142) 54 = .ok (.iconst 0, 1) by decide +kernel) rfl rfl rfl ?_
    refine e_L (L' := [some (aR 1), some (aI v1), some (aI v2), some (aI 0), none]) (st' := []) (show decode (mC 142) 55 = .ok (.istore_n 3, 1) by decide +kernel) rfl rfl ?_
    refine e_L (L' := [some (aR 1), some (aI v1), some (aI v2), some (aI 0), none]) (st' := [aI 0]) (show decode (mC 142) 56 = .ok (.iload_n 3, 1) by decide +kernel) rfl rfl ?_
    refine e_eq1 (t := 69) (show decode (mC 142) 57 = .ok (.ifCond .eq 12, 3) by decide +kernel) (by decide) (by decide) (fun _ => ?_) (fun h => absurd h (by decide))
    refine e_P (st' := [aI (-1)]) (show decode (mC 142) 69 = .ok (.iconst (-1), 1) by decide +kernel) rfl rfl rfl ?_
    refine e_L (L' := [some (aR 1), some (aI v1), some (aI v2), some (aI 0), some (aI (-1))]) (st' := []) (show decode (mC 142) 70 = .ok (.istore 4, 2) by decide +kernel) rfl rfl ?_
    refine e_L (L' := [some (aR 1), some (aI v1), some (aI v2), some (aI 0), some (aI (-1))]) (st' := [aR 1]) (show decode (mC 142) 72 = .ok (.aload_n 0, 1) by decide +kernel) rfl (by show (if 1 = 0 then none else some (_, _)) = _; rw [if_neg (by decide)]) ?_
    refine e_getR (w := 2) (show decode (mC 142) 73 = .ok (.getfield 21, 3) by decide +kernel) (show pl 11 21 = some (0, 11, 0, 0) by decide +kernel) (by decide) (sh_ok hG (by decide +kernel)) (sh_rf hG (by decide +kernel)) ?_
    refine e_P (st' := [aI 0, aR 2]) (show decode (mC 142) 76 = .ok (.iconst 0, 1) by decide +kernel) rfl rfl rfl ?_
    refine e_putI (show decode (mC 142) 77 = .ok (.putfield 108, 3) by decide +kernel) (show pl 11 108 = some (0, 10, 1, 0) by decide +kernel) (by decide) (sh_ok hG (by decide +kernel)) ?_
    refine e_L (L' := [some (aR 1), some (aI v1), some (aI v2), some (aI 0), some (aI (-1))]) (st' := [aI (-1)]) (show decode (mC 142) 80 = .ok (.iload 4, 2) by decide +kernel) rfl rfl ?_
    exact e_iret (show decode (mC 142) 82 = .ok (.ireturn, 1) by decide +kernel) rfl (z1 p1)
  · refine e_L (L' := [some (aR 1), some (aI v1), some (aI v2), none, none]) (st' := [aI v1]) (show decode (mC 142) 45 = .ok (.iload_n 1, 1) by decide +kernel) rfl rfl ?_
    refine e_L (L' := [some (aR 1), some (aI v1), some (aI v2), none, none]) (st' := [aI v2, aI v1]) (show decode (mC 142) 46 = .ok (.iload_n 2, 1) by decide +kernel) rfl rfl ?_
    refine e_eq2 (t := 54) (show decode (mC 142) 47 = .ok (.if_icmp .eq 7, 3) by decide +kernel) (by decide) (s2 p1) (s3 p1) (fun p2 => ?_) (fun p2 => ?_)
    · refine e_P (st' := [aI 0]) (show decode (mC 142) 54 = .ok (.iconst 0, 1) by decide +kernel) rfl rfl rfl ?_
      refine e_L (L' := [some (aR 1), some (aI v1), some (aI v2), some (aI 0), none]) (st' := []) (show decode (mC 142) 55 = .ok (.istore_n 3, 1) by decide +kernel) rfl rfl ?_
      refine e_L (L' := [some (aR 1), some (aI v1), some (aI v2), some (aI 0), none]) (st' := [aI 0]) (show decode (mC 142) 56 = .ok (.iload_n 3, 1) by decide +kernel) rfl rfl ?_
      refine e_eq1 (t := 69) (show decode (mC 142) 57 = .ok (.ifCond .eq 12, 3) by decide +kernel) (by decide) (by decide) (fun _ => ?_) (fun h => absurd h (by decide))
      refine e_P (st' := [aI (-1)]) (show decode (mC 142) 69 = .ok (.iconst (-1), 1) by decide +kernel) rfl rfl rfl ?_
      refine e_L (L' := [some (aR 1), some (aI v1), some (aI v2), some (aI 0), some (aI (-1))]) (st' := []) (show decode (mC 142) 70 = .ok (.istore 4, 2) by decide +kernel) rfl rfl ?_
      refine e_L (L' := [some (aR 1), some (aI v1), some (aI v2), some (aI 0), some (aI (-1))]) (st' := [aR 1]) (show decode (mC 142) 72 = .ok (.aload_n 0, 1) by decide +kernel) rfl (by show (if 1 = 0 then none else some (_, _)) = _; rw [if_neg (by decide)]) ?_
      refine e_getR (w := 2) (show decode (mC 142) 73 = .ok (.getfield 21, 3) by decide +kernel) (show pl 11 21 = some (0, 11, 0, 0) by decide +kernel) (by decide) (sh_ok hG (by decide +kernel)) (sh_rf hG (by decide +kernel)) ?_
      refine e_P (st' := [aI 0, aR 2]) (show decode (mC 142) 76 = .ok (.iconst 0, 1) by decide +kernel) rfl rfl rfl ?_
      refine e_putI (show decode (mC 142) 77 = .ok (.putfield 108, 3) by decide +kernel) (show pl 11 108 = some (0, 10, 1, 0) by decide +kernel) (by decide) (sh_ok hG (by decide +kernel)) ?_
      refine e_L (L' := [some (aR 1), some (aI v1), some (aI v2), some (aI 0), some (aI (-1))]) (st' := [aI (-1)]) (show decode (mC 142) 80 = .ok (.iload 4, 2) by decide +kernel) rfl rfl ?_
      exact e_iret (show decode (mC 142) 82 = .ok (.ireturn, 1) by decide +kernel) rfl (z4 p1 p2)
    · refine e_P (st' := [aI 1]) (show decode (mC 142) 50 = .ok (.iconst 1, 1) by decide +kernel) rfl rfl rfl ?_
      refine e_go (t := 55) (show decode (mC 142) 51 = .ok (.goto 4, 3) by decide +kernel) (by decide) ?_
      refine e_L (L' := [some (aR 1), some (aI v1), some (aI v2), some (aI 1), none]) (st' := []) (show decode (mC 142) 55 = .ok (.istore_n 3, 1) by decide +kernel) rfl rfl ?_
      refine e_L (L' := [some (aR 1), some (aI v1), some (aI v2), some (aI 1), none]) (st' := [aI 1]) (show decode (mC 142) 56 = .ok (.iload_n 3, 1) by decide +kernel) rfl rfl ?_
      refine e_eq1 (t := 69) (show decode (mC 142) 57 = .ok (.ifCond .eq 12, 3) by decide +kernel) (by decide) (by decide) (fun h => absurd h (by decide)) (fun _ => ?_)
      refine e_L (L' := [some (aR 1), some (aI v1), some (aI v2), some (aI 1), none]) (st' := [aR 1]) (show decode (mC 142) 60 = .ok (.aload_n 0, 1) by decide +kernel) rfl (by show (if 1 = 0 then none else some (_, _)) = _; rw [if_neg (by decide)]) ?_
      refine e_L (L' := [some (aR 1), some (aI v1), some (aI v2), some (aI 1), none]) (st' := [aI v1, aR 1]) (show decode (mC 142) 61 = .ok (.iload_n 1, 1) by decide +kernel) rfl rfl ?_
      refine e_L (L' := [some (aR 1), some (aI v1), some (aI v2), some (aI 1), none]) (st' := [aI v2, aI v1, aR 1]) (show decode (mC 142) 62 = .ok (.iload_n 2, 1) by decide +kernel) rfl rfl ?_
      exact e_V (as := [aR 1, aI v1, aI v2]) (rest := []) (show decode (mC 142) 63 = .ok (.invokevirtual 341, 3) by decide +kernel) (by decide +kernel) (show (decide ((3 : Nat) = mA 148) && decide (148 < q_law)) = true by decide +kernel) rfl (show (0 : Nat) ≤ 8 by decide) (show (3 : Nat) ≤ mL 148 by decide +kernel) rfl (sh_ok hG (by decide +kernel)) (tm_le hQ (leS (leN (leN (leN (leS leE))))) (m5 p1 p2))
/-- SoulOffice.were(II)I, from 66 -/
theorem b142_66 (hG : Shp G) {u0 : Int}
    (z0 : Q (.inl (some (aI u0))) (G, (q_up c 2 1 0))) :
    T (d + 1) 142 66 [some (aR 1), none, none, none, none] [aI u0] (G, c) Q := by
  refine e_go (t := 70) (show decode (mC 142) 66 = .ok (.goto 4, 3) by decide +kernel) (by decide) ?_
  refine e_L (L' := [some (aR 1), none, none, none, some (aI u0)]) (st' := []) (show decode (mC 142) 70 = .ok (.istore 4, 2) by decide +kernel) rfl rfl ?_
  refine e_L (L' := [some (aR 1), none, none, none, some (aI u0)]) (st' := [aR 1]) (show decode (mC 142) 72 = .ok (.aload_n 0, 1) by decide +kernel) rfl (by show (if 1 = 0 then none else some (_, _)) = _; rw [if_neg (by decide)]) ?_
  refine e_getR (w := 2) (show decode (mC 142) 73 = .ok (.getfield 21, 3) by decide +kernel) (show pl 11 21 = some (0, 11, 0, 0) by decide +kernel) (by decide) (sh_ok hG (by decide +kernel)) (sh_rf hG (by decide +kernel)) ?_
  refine e_P (st' := [aI 0, aR 2]) (show decode (mC 142) 76 = .ok (.iconst 0, 1) by decide +kernel) rfl rfl rfl ?_
  refine e_putI (show decode (mC 142) 77 = .ok (.putfield 108, 3) by decide +kernel) (show pl 11 108 = some (0, 10, 1, 0) by decide +kernel) (by decide) (sh_ok hG (by decide +kernel)) ?_
  refine e_L (L' := [some (aR 1), none, none, none, some (aI u0)]) (st' := [aI u0]) (show decode (mC 142) 80 = .ok (.iload 4, 2) by decide +kernel) rfl rfl ?_
  exact e_iret (show decode (mC 142) 82 = .ok (.ireturn, 1) by decide +kernel) rfl z0
/-- SoulOffice.first(I)I, from 0 -/
theorem b143_0 (hG : Shp G) {v1 x1 : Int}
    (s0 : -2147483648 ≤ v1 ∧ v1 < 2147483648)
    (z1 : (v1 < 0) → Q (.inl (some (aI (-1)))) (G, c))
    (s2 : (0 ≤ v1) → (v1 < 3) → 0 ≤ v1)
    (s3 : (0 ≤ v1) → (v1 < 3) → v1 < 3)
    (ex1 : c 187 v1 = x1)
    (z5 : (0 ≤ v1) → (v1 < 3) → Q (.inl (some (aI x1))) (G, c))
    (z6 : (0 ≤ v1) → (3 ≤ v1) → Q (.inl (some (aI (-1)))) (G, c)) :
    T d 143 0 [some (aR 1), some (aI v1)] [] (G, c) Q := by
  refine e_L (L' := [some (aR 1), some (aI v1)]) (st' := [aI v1]) (show decode (mC 143) 0 = .ok (.iload_n 1, 1) by decide +kernel) rfl rfl ?_
  refine e_lt1 (t := 13) (show decode (mC 143) 1 = .ok (.ifCond .lt 12, 3) by decide +kernel) (by decide) s0 (fun p1 => ?_) (fun p1 => ?_)
  · refine e_P (st' := [aI (-1)]) (show decode (mC 143) 13 = .ok (.iconst (-1), 1) by decide +kernel) rfl rfl rfl ?_
    refine e_go (t := 23) (show decode (mC 143) 14 = .ok (.goto 9, 3) by decide +kernel) (by decide) ?_
    exact e_iret (show decode (mC 143) 23 = .ok (.ireturn, 1) by decide +kernel) rfl (z1 p1)
  · refine e_L (L' := [some (aR 1), some (aI v1)]) (st' := [aI v1]) (show decode (mC 143) 4 = .ok (.iload_n 1, 1) by decide +kernel) rfl rfl ?_
    refine e_L (L' := [some (aR 1), some (aI v1)]) (st' := [aR 1, aI v1]) (show decode (mC 143) 5 = .ok (.aload_n 0, 1) by decide +kernel) rfl (by show (if 1 = 0 then none else some (_, _)) = _; rw [if_neg (by decide)]) ?_
    refine e_getR (w := 187) (show decode (mC 143) 6 = .ok (.getfield 104, 3) by decide +kernel) (show pl 11 104 = some (0, 11, 14, 0) by decide +kernel) (by decide) (sh_ok hG (by decide +kernel)) (sh_rf hG (by decide +kernel)) ?_
    refine e_alen (n := 3) (ki := 20) (show decode (mC 143) 9 = .ok (.arraylength, 1) by decide +kernel) (sh_ok hG (by decide +kernel)) (by decide) (sh_ln hG (by decide +kernel)) ?_
    refine e_lt2 (t := 17) (show decode (mC 143) 10 = .ok (.if_icmp .lt 7, 3) by decide +kernel) (by decide) s0 (by decide) (fun p2 => ?_) (fun p2 => ?_)
    · refine e_L (L' := [some (aR 1), some (aI v1)]) (st' := [aR 1]) (show decode (mC 143) 17 = .ok (.aload_n 0, 1) by decide +kernel) rfl (by show (if 1 = 0 then none else some (_, _)) = _; rw [if_neg (by decide)]) ?_
      refine e_getR (w := 187) (show decode (mC 143) 18 = .ok (.getfield 104, 3) by decide +kernel) (show pl 11 104 = some (0, 11, 14, 0) by decide +kernel) (by decide) (sh_ok hG (by decide +kernel)) (sh_rf hG (by decide +kernel)) ?_
      refine e_L (L' := [some (aR 1), some (aI v1)]) (st' := [aI v1, aR 187]) (show decode (mC 143) 21 = .ok (.iload_n 1, 1) by decide +kernel) rfl rfl ?_
      refine e_ialdx (n := 3) (show decode (mC 143) 22 = .ok (.iaload, 1) by decide +kernel) (sh_ok hG (by decide +kernel)) (sh_ln hG (by decide +kernel)) (by decide) (s2 p1 p2) (s3 p1 p2) ex1 ?_
      exact e_iret (show decode (mC 143) 23 = .ok (.ireturn, 1) by decide +kernel) rfl (z5 p1 p2)
    · refine e_P (st' := [aI (-1)]) (show decode (mC 143) 13 = .ok (.iconst (-1), 1) by decide +kernel) rfl rfl rfl ?_
      refine e_go (t := 23) (show decode (mC 143) 14 = .ok (.goto 9, 3) by decide +kernel) (by decide) ?_
      exact e_iret (show decode (mC 143) 23 = .ok (.ireturn, 1) by decide +kernel) rfl (z6 p1 p2)
end QB19
