section QB27
variable {d : Nat} {G : GG} {c : CC} {Q : OO → HH → Prop}
/-- SoulOfficeModel.clerkOf(I)I, from 45 -/
theorem b203_45 (hG : Shp G) {v1 v3 u0 : Int}
    (s0 : -2147483648 ≤ u0 ∧ u0 < 2147483648)
    (k1 : (¬ u0 = 0) → T (d + 1) 203 29 [some (aR 188), some (aI v1), none, some (aI (v3 + 1))] [] (G, c) Q)
    (z2 : (u0 = 0) → Q (.inl (some (aI v3))) (G, c)) :
    T (d + 1) 203 45 [some (aR 188), some (aI v1), none, some (aI v3)] [aI u0] (G, c) Q := by
  refine e_ne1 (t := 50) (show decode (mC 203) 45 = .ok (.ifCond .ne 5, 3) by decide +kernel) (by decide) s0 (fun p1 => ?_) (fun p1 => ?_)
  · refine e_L (L' := [some (aR 188), some (aI v1), none, some (aI (v3 + 1))]) (st' := []) (show decode (mC 203) 50 = .ok (.iinc 3 1, 3) by decide +kernel) rfl rfl ?_
    refine e_go (t := 29) (show decode (mC 203) 53 = .ok (.goto (-24), 3) by decide +kernel) (by decide) ?_
    exact (k1 p1)
  · refine e_L (L' := [some (aR 188), some (aI v1), none, some (aI v3)]) (st' := [aI v3]) (show decode (mC 203) 48 = .ok (.iload_n 3, 1) by decide +kernel) rfl rfl ?_
    exact e_iret (show decode (mC 203) 49 = .ok (.ireturn, 1) by decide +kernel) rfl (z2 p1)
/-- SoulOfficeModel.clerks()V, from 0 -/
theorem b204_0 (hG : Shp G)
    (k0 : T (d + 1) 204 2 [some (aR 188), some (aI 0), none] [] (G, c) Q) :
    T (d + 1) 204 0 [some (aR 188), none, none] [] (G, c) Q := by
  refine e_P (st' := [aI 0]) (show decode (mC 204) 0 = .ok (.iconst 0, 1) by decide +kernel) rfl rfl rfl ?_
  refine e_L (L' := [some (aR 188), some (aI 0), none]) (st' := []) (show decode (mC 204) 1 = .ok (.istore_n 1, 1) by decide +kernel) rfl rfl ?_
  exact k0
/-- SoulOfficeModel.clerks()V, from 2 -/
theorem b204_2 (hG : Shp G) {v1 x1 : Int}
    (ex1 : c 190 1 = x1)
    (s1 : -2147483648 ≤ v1 ∧ v1 < 2147483648)
    (s2 : -2147483648 ≤ x1 ∧ x1 < 2147483648)
    (z3 : (x1 ≤ v1) → Q (.inl none) (G, c))
    (m4 : (v1 < x1) → TM d 203 [aR 188, aI v1] (G, c) (fun r h' => T (d + 1) 204 17 [some (aR 188), some (aI v1), none] (r.toList ++ []) h' Q)) :
    T (d + 1) 204 2 [some (aR 188), some (aI v1), none] [] (G, c) Q := by
  refine e_L (L' := [some (aR 188), some (aI v1), none]) (st' := [aI v1]) (show decode (mC 204) 2 = .ok (.iload_n 1, 1) by decide +kernel) rfl rfl ?_
  refine e_L (L' := [some (aR 188), some (aI v1), none]) (st' := [aR 188, aI v1]) (show decode (mC 204) 3 = .ok (.aload_n 0, 1) by decide +kernel) rfl (by show (if 188 = 0 then none else some (_, _)) = _; rw [if_neg (by decide)]) ?_
  refine e_getR (w := 190) (show decode (mC 204) 4 = .ok (.getfield 33, 3) by decide +kernel) (show pl 12 33 = some (0, 12, 6, 0) by decide +kernel) (by decide) (sh_ok hG (by decide +kernel)) (sh_rf hG (by decide +kernel)) ?_
  refine e_P (st' := [aI 1, aR 190, aI v1]) (show decode (mC 204) 7 = .ok (.iconst 1, 1) by decide +kernel) rfl rfl rfl ?_
  refine e_ialdx (n := 514) (show decode (mC 204) 8 = .ok (.iaload, 1) by decide +kernel) (sh_ok hG (by decide +kernel)) (sh_ln hG (by decide +kernel)) (by decide) (by decide) (by decide) ex1 ?_
  refine e_ge2 (t := 34) (show decode (mC 204) 9 = .ok (.if_icmp .ge 25, 3) by decide +kernel) (by decide) s1 s2 (fun p1 => ?_) (fun p1 => ?_)
  · exact e_vret (show decode (mC 204) 34 = .ok (.return_, 1) by decide +kernel) rfl (z3 p1)
  · refine e_L (L' := [some (aR 188), some (aI v1), none]) (st' := [aR 188]) (show decode (mC 204) 12 = .ok (.aload_n 0, 1) by decide +kernel) rfl (by show (if 188 = 0 then none else some (_, _)) = _; rw [if_neg (by decide)]) ?_
    refine e_L (L' := [some (aR 188), some (aI v1), none]) (st' := [aI v1, aR 188]) (show decode (mC 204) 13 = .ok (.iload_n 1, 1) by decide +kernel) rfl rfl ?_
    exact e_V (as := [aR 188, aI v1]) (rest := []) (show decode (mC 204) 14 = .ok (.invokevirtual 278, 3) by decide +kernel) (by decide +kernel) (show (decide ((2 : Nat) = mA 203) && decide (203 < q_law)) = true by decide +kernel) rfl (show (0 : Nat) ≤ 8 by decide) (show (2 : Nat) ≤ mL 203 by decide +kernel) rfl (sh_ok hG (by decide +kernel)) (m4 p1)
/-- SoulOfficeModel.clerks()V, from 17 -/
theorem b204_17 (hG : Shp G) {v1 u0 : Int} (hQ : ∀ o o' h', q_eqo o o' → Q o h' → Q o' h')
    (s0 : -2147483648 ≤ u0 ∧ u0 < 2147483648)
    (k1 : (u0 < 0) → T (d + 1) 204 28 [some (aR 188), some (aI v1), none] [] (G, c) Q)
    (m2 : (0 ≤ u0) → TM d 200 [aR 188, aI v1, aI u0] (G, c) (fun r h' => T (d + 1) 204 28 [some (aR 188), some (aI v1), none] (r.toList ++ []) h' Q)) :
    T (d + 1) 204 17 [some (aR 188), some (aI v1), none] [aI u0] (G, c) Q := by
  refine e_L (L' := [some (aR 188), some (aI v1), some (aI u0)]) (st' := []) (show decode (mC 204) 17 = .ok (.istore_n 2, 1) by decide +kernel) rfl rfl ?_
  refine e_L (L' := [some (aR 188), some (aI v1), some (aI u0)]) (st' := [aI u0]) (show decode (mC 204) 18 = .ok (.iload_n 2, 1) by decide +kernel) rfl rfl ?_
  refine e_lt1 (t := 28) (show decode (mC 204) 19 = .ok (.ifCond .lt 9, 3) by decide +kernel) (by decide) s0 (fun p1 => ?_) (fun p1 => ?_)
  · exact T_le hQ (leS (leS (leN leE))) (k1 p1)
  · refine e_L (L' := [some (aR 188), some (aI v1), some (aI u0)]) (st' := [aR 188]) (show decode (mC 204) 22 = .ok (.aload_n 0, 1) by decide +kernel) rfl (by show (if 188 = 0 then none else some (_, _)) = _; rw [if_neg (by decide)]) ?_
    refine e_L (L' := [some (aR 188), some (aI v1), some (aI u0)]) (st' := [aI v1, aR 188]) (show decode (mC 204) 23 = .ok (.iload_n 1, 1) by decide +kernel) rfl rfl ?_
    refine e_L (L' := [some (aR 188), some (aI v1), some (aI u0)]) (st' := [aI u0, aI v1, aR 188]) (show decode (mC 204) 24 = .ok (.iload_n 2, 1) by decide +kernel) rfl rfl ?_
    exact e_V (as := [aR 188, aI v1, aI u0]) (rest := []) (show decode (mC 204) 25 = .ok (.invokevirtual 281, 3) by decide +kernel) (by decide +kernel) (show (decide ((3 : Nat) = mA 200) && decide (200 < q_law)) = true by decide +kernel) rfl (show (0 : Nat) ≤ 8 by decide) (show (3 : Nat) ≤ mL 200 by decide +kernel) rfl (sh_ok hG (by decide +kernel)) (tm_le hQ (leS (leS (leN leE))) (m2 p1))
/-- SoulOfficeModel.clerks()V, from 28 -/
theorem b204_28 (hG : Shp G) {v1 : Int}
    (k0 : T (d + 1) 204 2 [some (aR 188), some (aI (v1 + 1)), none] [] (G, c) Q) :
    T (d + 1) 204 28 [some (aR 188), some (aI v1), none] [] (G, c) Q := by
  refine e_L (L' := [some (aR 188), some (aI (v1 + 1)), none]) (st' := []) (show decode (mC 204) 28 = .ok (.iinc 1 1, 3) by decide +kernel) rfl rfl ?_
  refine e_go (t := 2) (show decode (mC 204) 31 = .ok (.goto (-29), 3) by decide +kernel) (by decide) ?_
  exact k0
/-- SoulOfficeModel.clerkDay()V, from 0 -/
theorem b205_0 (hG : Shp G)
    (m0 : TM d 204 [aR 188] (G, c) (fun r h' => T (d + 1) 205 4 [some (aR 188)] (r.toList ++ []) h' Q)) :
    T (d + 1) 205 0 [some (aR 188)] [] (G, c) Q := by
  refine e_L (L' := [some (aR 188)]) (st' := [aR 188]) (show decode (mC 205) 0 = .ok (.aload_n 0, 1) by decide +kernel) rfl (by show (if 188 = 0 then none else some (_, _)) = _; rw [if_neg (by decide)]) ?_
  exact e_V (as := [aR 188]) (rest := []) (show decode (mC 205) 1 = .ok (.invokevirtual 284, 3) by decide +kernel) (by decide +kernel) (show (decide ((1 : Nat) = mA 204) && decide (204 < q_law)) = true by decide +kernel) rfl (show (0 : Nat) ≤ 8 by decide) (show (1 : Nat) ≤ mL 204 by decide +kernel) rfl (sh_ok hG (by decide +kernel)) m0
/-- SoulOfficeModel.clerkDay()V, from 4 -/
theorem b205_4 (hG : Shp G) (hQ : ∀ o o' h', q_eqo o o' → Q o h' → Q o' h')
    (m0 : TM d 202 [aR 188] (G, c) (fun r h' => T (d + 1) 205 8 [none] (r.toList ++ []) h' Q)) :
    T (d + 1) 205 4 [some (aR 188)] [] (G, c) Q := by
  refine e_L (L' := [some (aR 188)]) (st' := [aR 188]) (show decode (mC 205) 4 = .ok (.aload_n 0, 1) by decide +kernel) rfl (by show (if 188 = 0 then none else some (_, _)) = _; rw [if_neg (by decide)]) ?_
  exact e_V (as := [aR 188]) (rest := []) (show decode (mC 205) 5 = .ok (.invokevirtual 287, 3) by decide +kernel) (by decide +kernel) (show (decide ((1 : Nat) = mA 202) && decide (202 < q_law)) = true by decide +kernel) rfl (show (0 : Nat) ≤ 8 by decide) (show (1 : Nat) ≤ mL 202 by decide +kernel) rfl (sh_ok hG (by decide +kernel)) (tm_le hQ (leN leE) m0)
/-- SoulOfficeModel.clerkDay()V, from 8 -/
theorem b205_8 (hG : Shp G)
    (z0 : Q (.inl none) (G, c)) :
    T (d + 1) 205 8 [none] [] (G, c) Q := by
  exact e_vret (show decode (mC 205) 8 = .ok (.return_, 1) by decide +kernel) rfl z0
/-- SoulOfficeModel.why(II)I, from 0 -/
theorem b206_0 (hG : Shp G) {v1 v2 : Int}
    (m0 : TM d 188 [aR 188, aI v1] (G, (q_up c 188 0 0)) (fun r h' => T (d + 1) 206 10 [some (aR 188), some (aI v1), some (aI v2)] (r.toList ++ []) h' Q)) :
    T (d + 1) 206 0 [some (aR 188), some (aI v1), some (aI v2)] [] (G, c) Q := by
  refine e_L (L' := [some (aR 188), some (aI v1), some (aI v2)]) (st' := [aR 188]) (show decode (mC 206) 0 = .ok (.aload_n 0, 1) by decide +kernel) rfl (by show (if 188 = 0 then none else some (_, _)) = _; rw [if_neg (by decide)]) ?_
  refine e_P (st' := [aI 0, aR 188]) (show decode (mC 206) 1 = .ok (.iconst 0, 1) by decide +kernel) rfl rfl rfl ?_
  refine e_putI (show decode (mC 206) 2 = .ok (.putfield 1, 3) by decide +kernel) (show pl 12 1 = some (0, 12, 0, 0) by decide +kernel) (by decide) (sh_ok hG (by decide +kernel)) ?_
  refine e_L (L' := [some (aR 188), some (aI v1), some (aI v2)]) (st' := [aR 188]) (show decode (mC 206) 5 = .ok (.aload_n 0, 1) by decide +kernel) rfl (by show (if 188 = 0 then none else some (_, _)) = _; rw [if_neg (by decide)]) ?_
  refine e_L (L' := [some (aR 188), some (aI v1), some (aI v2)]) (st' := [aI v1, aR 188]) (show decode (mC 206) 6 = .ok (.iload_n 1, 1) by decide +kernel) rfl rfl ?_
  exact e_V (as := [aR 188, aI v1]) (rest := []) (show decode (mC 206) 7 = .ok (.invokevirtual 248, 3) by decide +kernel) (by decide +kernel) (show (decide ((2 : Nat) = mA 188) && decide (188 < q_law)) = true by decide +kernel) rfl (show (0 : Nat) ≤ 8 by decide) (show (2 : Nat) ≤ mL 188 by decide +kernel) rfl (sh_ok hG (by decide +kernel)) m0
/-- SoulOfficeModel.why(II)I, from 10 -/
theorem b206_10 (hG : Shp G) {v1 v2 u0 : Int}
    (s0 : -2147483648 ≤ u0 ∧ u0 < 2147483648)
    (z1 : (u0 = 0) → Q (.inl (some (aI (-1)))) (G, c))
    (m2 : (¬ u0 = 0) → TM d 187 [aR 188, aI v2] (G, c) (fun r h' => T (d + 1) 206 18 [some (aR 188), some (aI v1), some (aI v2)] (r.toList ++ []) h' Q)) :
    T (d + 1) 206 10 [some (aR 188), some (aI v1), some (aI v2)] [aI u0] (G, c) Q := by
  refine e_eq1 (t := 30) (show decode (mC 206) 10 = .ok (.ifCond .eq 20, 3) by decide +kernel) (by decide) s0 (fun p1 => ?_) (fun p1 => ?_)
  · refine e_P (st' := [aI (-1)]) (show decode (mC 206) 30 = .ok (.iconst (-1), 1) by decide +kernel) rfl rfl rfl ?_
    exact e_iret (show decode (mC 206) 31 = .ok (.ireturn, 1) by decide +kernel) rfl (z1 p1)
  · refine e_L (L' := [some (aR 188), some (aI v1), some (aI v2)]) (st' := [aR 188]) (show decode (mC 206) 13 = .ok (.aload_n 0, 1) by decide +kernel) rfl (by show (if 188 = 0 then none else some (_, _)) = _; rw [if_neg (by decide)]) ?_
    refine e_L (L' := [some (aR 188), some (aI v1), some (aI v2)]) (st' := [aI v2, aR 188]) (show decode (mC 206) 14 = .ok (.iload_n 2, 1) by decide +kernel) rfl rfl ?_
    exact e_V (as := [aR 188, aI v2]) (rest := []) (show decode (mC 206) 15 = .ok (.invokevirtual 241, 3) by decide +kernel) (by decide +kernel) (show (decide ((2 : Nat) = mA 187) && decide (187 < q_law)) = true by decide +kernel) rfl (show (0 : Nat) ≤ 8 by decide) (show (2 : Nat) ≤ mL 187 by decide +kernel) rfl (sh_ok hG (by decide +kernel)) (m2 p1)
/-- SoulOfficeModel.why(II)I, from 18 -/
theorem b206_18 (hG : Shp G) {v1 v2 u0 : Int} (hQ : ∀ o o' h', q_eqo o o' → Q o h' → Q o' h')
    (s0 : -2147483648 ≤ u0 ∧ u0 < 2147483648)
    (z1 : (u0 = 0) → Q (.inl (some (aI (-1)))) (G, c))
    (m2 : (¬ u0 = 0) → TM d 198 [aR 188, aI v1, aI v2] (G, c) (fun r h' => T (d + 1) 206 27 [none, none, none] (r.toList ++ []) h' Q)) :
    T (d + 1) 206 18 [some (aR 188), some (aI v1), some (aI v2)] [aI u0] (G, c) Q := by
  refine e_eq1 (t := 30) (show decode (mC 206) 18 = .ok (.ifCond .eq 12, 3) by decide +kernel) (by decide) s0 (fun p1 => ?_) (fun p1 => ?_)
  · refine e_P (st' := [aI (-1)]) (show decode (mC 206) 30 = .ok (.iconst (-1), 1) by decide +kernel) rfl rfl rfl ?_
    exact e_iret (show decode (mC 206) 31 = .ok (.ireturn, 1) by decide +kernel) rfl (z1 p1)
  · refine e_L (L' := [some (aR 188), some (aI v1), some (aI v2)]) (st' := [aR 188]) (show decode (mC 206) 21 = .ok (.aload_n 0, 1) by decide +kernel) rfl (by show (if 188 = 0 then none else some (_, _)) = _; rw [if_neg (by decide)]) ?_
    refine e_L (L' := [some (aR 188), some (aI v1), some (aI v2)]) (st' := [aI v1, aR 188]) (show decode (mC 206) 22 = .ok (.iload_n 1, 1) by decide +kernel) rfl rfl ?_
    refine e_L (L' := [some (aR 188), some (aI v1), some (aI v2)]) (st' := [aI v2, aI v1, aR 188]) (show decode (mC 206) 23 = .ok (.iload_n 2, 1) by decide +kernel) rfl rfl ?_
    exact e_V (as := [aR 188, aI v1, aI v2]) (rest := []) (show decode (mC 206) 24 = .ok (.invokevirtual 275, 3) by decide +kernel) (by decide +kernel) (show (decide ((3 : Nat) = mA 198) && decide (198 < q_law)) = true by decide +kernel) rfl (show (0 : Nat) ≤ 8 by decide) (show (3 : Nat) ≤ mL 198 by decide +kernel) rfl (sh_ok hG (by decide +kernel)) (tm_le hQ (leN (leN (leN leE))) (m2 p1))
/-- SoulOfficeModel.why(II)I, from 27 -/
theorem b206_27 (hG : Shp G) {u0 : Int}
    (z0 : Q (.inl (some (aI u0))) (G, c)) :
    T (d + 1) 206 27 [none, none, none] [aI u0] (G, c) Q := by
  refine e_go (t := 31) (show decode (mC 206) 27 = .ok (.goto 4, 3) by decide +kernel) (by decide) ?_
  exact e_iret (show decode (mC 206) 31 = .ok (.ireturn, 1) by decide +kernel) rfl z0
/-- SoulOfficeModel.give(II)I, from 0 -/
theorem b207_0 (hG : Shp G) {v1 v2 : Int}
    (m0 : TM d 188 [aR 188, aI v1] (G, (q_up c 188 0 0)) (fun r h' => T (d + 1) 207 10 [some (aR 188), some (aI v1), some (aI v2), none] (r.toList ++ []) h' Q)) :
    T (d + 1) 207 0 [some (aR 188), some (aI v1), some (aI v2), none] [] (G, c) Q := by
  refine e_L (L' := [some (aR 188), some (aI v1), some (aI v2), none]) (st' := [aR 188]) (show decode (mC 207) 0 = .ok (.aload_n 0, 1) by decide +kernel) rfl (by show (if 188 = 0 then none else some (_, _)) = _; rw [if_neg (by decide)]) ?_
  refine e_P (st' := [aI 0, aR 188]) (show decode (mC 207) 1 = .ok (.iconst 0, 1) by decide +kernel) rfl rfl rfl ?_
  refine e_putI (show decode (mC 207) 2 = .ok (.putfield 1, 3) by decide +kernel) (show pl 12 1 = some (0, 12, 0, 0) by decide +kernel) (by decide) (sh_ok hG (by decide +kernel)) ?_
  refine e_L (L' := [some (aR 188), some (aI v1), some (aI v2), none]) (st' := [aR 188]) (show decode (mC 207) 5 = .ok (.aload_n 0, 1) by decide +kernel) rfl (by show (if 188 = 0 then none else some (_, _)) = _; rw [if_neg (by decide)]) ?_
  refine e_L (L' := [some (aR 188), some (aI v1), some (aI v2), none]) (st' := [aI v1, aR 188]) (show decode (mC 207) 6 = .ok (.iload_n 1, 1) by decide +kernel) rfl rfl ?_
  exact e_V (as := [aR 188, aI v1]) (rest := []) (show decode (mC 207) 7 = .ok (.invokevirtual 248, 3) by decide +kernel) (by decide +kernel) (show (decide ((2 : Nat) = mA 188) && decide (188 < q_law)) = true by decide +kernel) rfl (show (0 : Nat) ≤ 8 by decide) (show (2 : Nat) ≤ mL 188 by decide +kernel) rfl (sh_ok hG (by decide +kernel)) m0
/-- SoulOfficeModel.give(II)I, from 10 -/
theorem b207_10 (hG : Shp G) {v1 v2 u0 : Int}
    (s0 : -2147483648 ≤ u0 ∧ u0 < 2147483648)
    (z1 : (u0 = 0) → Q (.inl (some (aI (-1)))) (G, c))
    (m2 : (¬ u0 = 0) → TM d 187 [aR 188, aI v2] (G, c) (fun r h' => T (d + 1) 207 18 [some (aR 188), some (aI v1), some (aI v2), none] (r.toList ++ []) h' Q)) :
    T (d + 1) 207 10 [some (aR 188), some (aI v1), some (aI v2), none] [aI u0] (G, c) Q := by
  refine e_eq1 (t := 21) (show decode (mC 207) 10 = .ok (.ifCond .eq 11, 3) by decide +kernel) (by decide) s0 (fun p1 => ?_) (fun p1 => ?_)
  · refine e_P (st' := [aI (-1)]) (show decode (mC 207) 21 = .ok (.iconst (-1), 1) by decide +kernel) rfl rfl rfl ?_
    exact e_iret (show decode (mC 207) 22 = .ok (.ireturn, 1) by decide +kernel) rfl (z1 p1)
  · refine e_L (L' := [some (aR 188), some (aI v1), some (aI v2), none]) (st' := [aR 188]) (show decode (mC 207) 13 = .ok (.aload_n 0, 1) by decide +kernel) rfl (by show (if 188 = 0 then none else some (_, _)) = _; rw [if_neg (by decide)]) ?_
    refine e_L (L' := [some (aR 188), some (aI v1), some (aI v2), none]) (st' := [aI v2, aR 188]) (show decode (mC 207) 14 = .ok (.iload_n 2, 1) by decide +kernel) rfl rfl ?_
    exact e_V (as := [aR 188, aI v2]) (rest := []) (show decode (mC 207) 15 = .ok (.invokevirtual 241, 3) by decide +kernel) (by decide +kernel) (show (decide ((2 : Nat) = mA 187) && decide (187 < q_law)) = true by decide +kernel) rfl (show (0 : Nat) ≤ 8 by decide) (show (2 : Nat) ≤ mL 187 by decide +kernel) rfl (sh_ok hG (by decide +kernel)) (m2 p1)
/-- SoulOfficeModel.give(II)I, from 18 -/
theorem b207_18 (hG : Shp G) {v1 v2 u0 : Int}
    (s0 : -2147483648 ≤ u0 ∧ u0 < 2147483648)
    (m1 : (¬ u0 = 0) → TM d 198 [aR 188, aI v1, aI v2] (G, c) (fun r h' => T (d + 1) 207 29 [some (aR 188), some (aI v1), some (aI v2), none] (r.toList ++ []) h' Q))
    (z2 : (u0 = 0) → Q (.inl (some (aI (-1)))) (G, c)) :
    T (d + 1) 207 18 [some (aR 188), some (aI v1), some (aI v2), none] [aI u0] (G, c) Q := by
  refine e_ne1 (t := 23) (show decode (mC 207) 18 = .ok (.ifCond .ne 5, 3) by decide +kernel) (by decide) s0 (fun p1 => ?_) (fun p1 => ?_)
  · refine e_L (L' := [some (aR 188), some (aI v1), some (aI v2), none]) (st' := [aR 188]) (show decode (mC 207) 23 = .ok (.aload_n 0, 1) by decide +kernel) rfl (by show (if 188 = 0 then none else some (_, _)) = _; rw [if_neg (by decide)]) ?_
    refine e_L (L' := [some (aR 188), some (aI v1), some (aI v2), none]) (st' := [aI v1, aR 188]) (show decode (mC 207) 24 = .ok (.iload_n 1, 1) by decide +kernel) rfl rfl ?_
    refine e_L (L' := [some (aR 188), some (aI v1), some (aI v2), none]) (st' := [aI v2, aI v1, aR 188]) (show decode (mC 207) 25 = .ok (.iload_n 2, 1) by decide +kernel) rfl rfl ?_
    exact e_V (as := [aR 188, aI v1, aI v2]) (rest := []) (show decode (mC 207) 26 = .ok (.invokevirtual 275, 3) by decide +kernel) (by decide +kernel) (show (decide ((3 : Nat) = mA 198) && decide (198 < q_law)) = true by decide +kernel) rfl (show (0 : Nat) ≤ 8 by decide) (show (3 : Nat) ≤ mL 198 by decide +kernel) rfl (sh_ok hG (by decide +kernel)) (m1 p1)
  · refine e_P (st' := [aI (-1)]) (show decode (mC 207) 21 = .ok (.iconst (-1), 1) by decide +kernel) rfl rfl rfl ?_
    exact e_iret (show decode (mC 207) 22 = .ok (.ireturn, 1) by decide +kernel) rfl (z2 p1)
/-- SoulOfficeModel.give(II)I, from 29 -/
theorem b207_29 (hG : Shp G) {v1 v2 u0 : Int} (hQ : ∀ o o' h', q_eqo o o' → Q o h' → Q o' h')
    (s0 : -2147483648 ≤ u0 ∧ u0 < 2147483648)
    (m1 : (u0 ≤ 0) → TM d 212 [aR 188] (G, c) (fun r h' => T (d + 1) 207 40 [some (aR 188), some (aI v1), some (aI v2), none] (r.toList ++ []) h' Q))
    (z2 : (0 < u0) → Q (.inl (some (aI u0))) (G, c)) :
    T (d + 1) 207 29 [some (aR 188), some (aI v1), some (aI v2), none] [aI u0] (G, c) Q := by
  refine e_L (L' := [some (aR 188), some (aI v1), some (aI v2), some (aI u0)]) (st' := []) (show decode (mC 207) 29 = .ok (.istore_n 3, 1) by decide +kernel) rfl rfl ?_
  refine e_L (L' := [some (aR 188), some (aI v1), some (aI v2), some (aI u0)]) (st' := [aI u0]) (show decode (mC 207) 30 = .ok (.iload_n 3, 1) by decide +kernel) rfl rfl ?_
  refine e_le1 (t := 36) (show decode (mC 207) 31 = .ok (.ifCond .le 5, 3) by decide +kernel) (by decide) s0 (fun p1 => ?_) (fun p1 => ?_)
  · refine e_L (L' := [some (aR 188), some (aI v1), some (aI v2), some (aI u0)]) (st' := [aR 188]) (show decode (mC 207) 36 = .ok (.aload_n 0, 1) by decide +kernel) rfl (by show (if 188 = 0 then none else some (_, _)) = _; rw [if_neg (by decide)]) ?_
    exact e_V (as := [aR 188]) (rest := []) (show decode (mC 207) 37 = .ok (.invokevirtual 290, 3) by decide +kernel) (by decide +kernel) (show (decide ((1 : Nat) = mA 212) && decide (212 < q_law)) = true by decide +kernel) rfl (show (0 : Nat) ≤ 8 by decide) (show (1 : Nat) ≤ mL 212 by decide +kernel) rfl (sh_ok hG (by decide +kernel)) (tm_le hQ (leS (leS (leS (leN leE)))) (m1 p1))
  · refine e_L (L' := [some (aR 188), some (aI v1), some (aI v2), some (aI u0)]) (st' := [aI u0]) (show decode (mC 207) 34 = .ok (.iload_n 3, 1) by decide +kernel) rfl rfl ?_
    exact e_iret (show decode (mC 207) 35 = .ok (.ireturn, 1) by decide +kernel) rfl (z2 p1)
/-- SoulOfficeModel.give(II)I, from 40 -/
theorem b207_40 (hG : Shp G) {v1 v2 : Int} (hQ : ∀ o o' h', q_eqo o o' → Q o h' → Q o' h')
    (m0 : TM d 200 [aR 188, aI v1, aI v2] (G, c) (fun r h' => T (d + 1) 207 46 [none, none, none, none] (r.toList ++ []) h' Q)) :
    T (d + 1) 207 40 [some (aR 188), some (aI v1), some (aI v2), none] [] (G, c) Q := by
  refine e_L (L' := [some (aR 188), some (aI v1), some (aI v2), none]) (st' := [aR 188]) (show decode (mC 207) 40 = .ok (.aload_n 0, 1) by decide +kernel) rfl (by show (if 188 = 0 then none else some (_, _)) = _; rw [if_neg (by decide)]) ?_
  refine e_L (L' := [some (aR 188), some (aI v1), some (aI v2), none]) (st' := [aI v1, aR 188]) (show decode (mC 207) 41 = .ok (.iload_n 1, 1) by decide +kernel) rfl rfl ?_
  refine e_L (L' := [some (aR 188), some (aI v1), some (aI v2), none]) (st' := [aI v2, aI v1, aR 188]) (show decode (mC 207) 42 = .ok (.iload_n 2, 1) by decide +kernel) rfl rfl ?_
  exact e_V (as := [aR 188, aI v1, aI v2]) (rest := []) (show decode (mC 207) 43 = .ok (.invokevirtual 281, 3) by decide +kernel) (by decide +kernel) (show (decide ((3 : Nat) = mA 200) && decide (200 < q_law)) = true by decide +kernel) rfl (show (0 : Nat) ≤ 8 by decide) (show (3 : Nat) ≤ mL 200 by decide +kernel) rfl (sh_ok hG (by decide +kernel)) (tm_le hQ (leN (leN (leN (leS leE)))) m0)
/-- SoulOfficeModel.give(II)I, from 46 -/
theorem b207_46 (hG : Shp G)
    (z0 : Q (.inl (some (aI 0))) (G, c)) :
    T (d + 1) 207 46 [none, none, none, none] [] (G, c) Q := by
  refine e_P (st' := [aI 0]) (show decode (mC 207) 46 = .ok (.iconst 0, 1) by decide +kernel) rfl rfl rfl ?_
  exact e_iret (show decode (mC 207) 47 = .ok (.ireturn, 1) by decide +kernel) rfl z0
/-- SoulOfficeModel.areDays(I)Z, from 0 -/
theorem b208_0 (hG : Shp G) {v1 : Int}
    (m0 : TM d 164 [aI v1, aI 1, aI 60] (G, c) (fun r h' => T (d + 1) 208 7 [some (aR 188), some (aI v1)] (r.toList ++ []) h' Q)) :
    T (d + 1) 208 0 [some (aR 188), some (aI v1)] [] (G, c) Q := by
  refine e_L (L' := [some (aR 188), some (aI v1)]) (st' := [aI v1]) (show decode (mC 208) 0 = .ok (.iload_n 1, 1) by decide +kernel) rfl rfl ?_
  refine e_P (st' := [aI 1, aI v1]) (show decode (mC 208) 1 = .ok (.iconst 1, 1) by decide +kernel) rfl rfl rfl ?_
  refine e_P (st' := [aI 60, aI 1, aI v1]) (show decode (mC 208) 2 = .ok (.bipush 60, 2) by decide +kernel) rfl rfl rfl ?_
  exact e_S (as := [aI v1, aI 1, aI 60]) (rest := []) (show decode (mC 208) 4 = .ok (.invokestatic 184, 3) by decide +kernel) (by decide +kernel) (show (decide ((3 : Nat) = mA 164) && decide (164 < q_law)) = true by decide +kernel) rfl (show (0 : Nat) ≤ 8 by decide) (show (3 : Nat) ≤ mL 164 by decide +kernel) m0
/-- SoulOfficeModel.areDays(I)Z, from 7 -/
theorem b208_7 (hG : Shp G) {v1 u0 x1 : Int}
    (s0 : -2147483648 ≤ u0 ∧ u0 < 2147483648)
    (z1 : (u0 = 0) → Q (.inl (some (aI 0))) (G, c))
    (ex1 : c 190 168 = x1)
    (s3 : (¬ u0 = 0) → -2147483648 ≤ (x1 + v1) ∧ (x1 + v1) < 2147483648)
    (z4 : (¬ u0 = 0) → (9999 < (x1 + v1)) → Q (.inl (some (aI 0))) (G, c))
    (z5 : (¬ u0 = 0) → ((x1 + v1) ≤ 9999) → Q (.inl (some (aI 1))) (G, c)) :
    T (d + 1) 208 7 [some (aR 188), some (aI v1)] [aI u0] (G, c) Q := by
  refine e_eq1 (t := 30) (show decode (mC 208) 7 = .ok (.ifCond .eq 23, 3) by decide +kernel) (by decide) s0 (fun p1 => ?_) (fun p1 => ?_)
  · refine e_P (st' := [aI 0]) (show decode (mC 208) 30 = .ok (.iconst 0, 1) by decide +kernel) rfl rfl rfl ?_
    exact e_zret (show decode (mC 208) 31 = .ok (.ireturn, 1) by decide +kernel) rfl (by decide) (z1 p1)
  · refine e_L (L' := [some (aR 188), some (aI v1)]) (st' := [aR 188]) (show decode (mC 208) 10 = .ok (.aload_n 0, 1) by decide +kernel) rfl (by show (if 188 = 0 then none else some (_, _)) = _; rw [if_neg (by decide)]) ?_
    refine e_getR (w := 190) (show decode (mC 208) 11 = .ok (.getfield 33, 3) by decide +kernel) (show pl 12 33 = some (0, 12, 6, 0) by decide +kernel) (by decide) (sh_ok hG (by decide +kernel)) (sh_rf hG (by decide +kernel)) ?_
    refine e_P (st' := [aI 168, aR 190]) (show decode (mC 208) 14 = .ok (.sipush 168, 3) by decide +kernel) rfl rfl rfl ?_
    refine e_ialdx (n := 514) (show decode (mC 208) 17 = .ok (.iaload, 1) by decide +kernel) (sh_ok hG (by decide +kernel)) (sh_ln hG (by decide +kernel)) (by decide) (by decide) (by decide) ex1 ?_
    refine e_L (L' := [some (aR 188), some (aI v1)]) (st' := [aI v1, aI x1]) (show decode (mC 208) 18 = .ok (.iload_n 1, 1) by decide +kernel) rfl rfl ?_
    refine e_P (st' := [aI (x1 + v1)]) (show decode (mC 208) 19 = .ok (.iadd, 1) by decide +kernel) rfl rfl rfl ?_
    refine e_P (st' := [aI 9999, aI (x1 + v1)]) (show decode (mC 208) 20 = .ok (.sipush 9999, 3) by decide +kernel) rfl rfl rfl ?_
    refine e_gt2 (t := 30) (show decode (mC 208) 23 = .ok (.if_icmp .gt 7, 3) by decide +kernel) (by decide) (s3 p1) (by decide) (fun p2 => ?_) (fun p2 => ?_)
    · refine e_P (st' := [aI 0]) (show decode (mC 208) 30 = .ok (.iconst 0, 1) by decide +kernel) rfl rfl rfl ?_
      exact e_zret (show decode (mC 208) 31 = .ok (.ireturn, 1) by decide +kernel) rfl (by decide) (z4 p1 p2)
    · refine e_P (st' := [aI 1]) (show decode (mC 208) 26 = .ok (.iconst 1, 1) by decide +kernel) rfl rfl rfl ?_
      refine e_go (t := 31) (show decode (mC 208) 27 = .ok (.goto 4, 3) by decide +kernel) (by decide) ?_
      exact e_zret (show decode (mC 208) 31 = .ok (.ireturn, 1) by decide +kernel) rfl (by decide) (z5 p1 p2)
/-- SoulOfficeModel.days(I)I, from 0 -/
theorem b209_0 (hG : Shp G) {v1 : Int}
    (m0 : TM d 208 [aR 188, aI v1] (G, (q_up c 188 0 0)) (fun r h' => T (d + 1) 209 10 [some (aR 188), some (aI v1), none] (r.toList ++ []) h' Q)) :
    T (d + 1) 209 0 [some (aR 188), some (aI v1), none] [] (G, c) Q := by
  refine e_L (L' := [some (aR 188), some (aI v1), none]) (st' := [aR 188]) (show decode (mC 209) 0 = .ok (.aload_n 0, 1) by decide +kernel) rfl (by show (if 188 = 0 then none else some (_, _)) = _; rw [if_neg (by decide)]) ?_
  refine e_P (st' := [aI 0, aR 188]) (show decode (mC 209) 1 = .ok (.iconst 0, 1) by decide +kernel) rfl rfl rfl ?_
  refine e_putI (show decode (mC 209) 2 = .ok (.putfield 1, 3) by decide +kernel) (show pl 12 1 = some (0, 12, 0, 0) by decide +kernel) (by decide) (sh_ok hG (by decide +kernel)) ?_
  refine e_L (L' := [some (aR 188), some (aI v1), none]) (st' := [aR 188]) (show decode (mC 209) 5 = .ok (.aload_n 0, 1) by decide +kernel) rfl (by show (if 188 = 0 then none else some (_, _)) = _; rw [if_neg (by decide)]) ?_
  refine e_L (L' := [some (aR 188), some (aI v1), none]) (st' := [aI v1, aR 188]) (show decode (mC 209) 6 = .ok (.iload_n 1, 1) by decide +kernel) rfl rfl ?_
  exact e_V (as := [aR 188, aI v1]) (rest := []) (show decode (mC 209) 7 = .ok (.invokevirtual 293, 3) by decide +kernel) (by decide +kernel) (show (decide ((2 : Nat) = mA 208) && decide (208 < q_law)) = true by decide +kernel) rfl (show (0 : Nat) ≤ 8 by decide) (show (2 : Nat) ≤ mL 208 by decide +kernel) rfl (sh_ok hG (by decide +kernel)) m0
/-- SoulOfficeModel.days(I)I, from 10 -/
theorem b209_10 (hG : Shp G) {v1 u0 : Int}
    (s0 : -2147483648 ≤ u0 ∧ u0 < 2147483648)
    (m1 : (¬ u0 = 0) → TM d 212 [aR 188] (G, c) (fun r h' => T (d + 1) 209 19 [some (aR 188), some (aI v1), none] (r.toList ++ []) h' Q))
    (z2 : (u0 = 0) → Q (.inl (some (aI (-1)))) (G, c)) :
    T (d + 1) 209 10 [some (aR 188), some (aI v1), none] [aI u0] (G, c) Q := by
  refine e_ne1 (t := 15) (show decode (mC 209) 10 = .ok (.ifCond .ne 5, 3) by decide +kernel) (by decide) s0 (fun p1 => ?_) (fun p1 => ?_)
  · refine e_L (L' := [some (aR 188), some (aI v1), none]) (st' := [aR 188]) (show decode (mC 209) 15 = .ok (.aload_n 0, 1) by decide +kernel) rfl (by show (if 188 = 0 then none else some (_, _)) = _; rw [if_neg (by decide)]) ?_
    exact e_V (as := [aR 188]) (rest := []) (show decode (mC 209) 16 = .ok (.invokevirtual 290, 3) by decide +kernel) (by decide +kernel) (show (decide ((1 : Nat) = mA 212) && decide (212 < q_law)) = true by decide +kernel) rfl (show (0 : Nat) ≤ 8 by decide) (show (1 : Nat) ≤ mL 212 by decide +kernel) rfl (sh_ok hG (by decide +kernel)) (m1 p1)
  · refine e_P (st' := [aI (-1)]) (show decode (mC 209) 13 = .ok (.iconst (-1), 1) by decide +kernel) rfl rfl rfl ?_
    exact e_iret (show decode (mC 209) 14 = .ok (.ireturn, 1) by decide +kernel) rfl (z2 p1)
/-- SoulOfficeModel.days(I)I, from 19 -/
theorem b209_19 (hG : Shp G) {v1 : Int}
    (k0 : T (d + 1) 209 21 [some (aR 188), some (aI v1), some (aI 0)] [] (G, c) Q) :
    T (d + 1) 209 19 [some (aR 188), some (aI v1), none] [] (G, c) Q := by
  refine e_P (st' := [aI 0]) (show decode (mC 209) 19 = .ok (.iconst 0, 1) by decide +kernel) rfl rfl rfl ?_
  refine e_L (L' := [some (aR 188), some (aI v1), some (aI 0)]) (st' := []) (show decode (mC 209) 20 = .ok (.istore_n 2, 1) by decide +kernel) rfl rfl ?_
  exact k0
/-- SoulOfficeModel.days(I)I, from 21 -/
theorem b209_21 (hG : Shp G) {v1 v2 x1 : Int}
    (s0 : -2147483648 ≤ v2 ∧ v2 < 2147483648)
    (s1 : -2147483648 ≤ v1 ∧ v1 < 2147483648)
    (ex1 : c 190 168 = x1)
    (z3 : (v1 ≤ v2) → Q (.inl (some (aI x1))) (G, c))
    (m4 : (v2 < v1) → TM d 202 [aR 188] (G, c) (fun r h' => T (d + 1) 209 30 [some (aR 188), some (aI v1), some (aI v2)] (r.toList ++ []) h' Q)) :
    T (d + 1) 209 21 [some (aR 188), some (aI v1), some (aI v2)] [] (G, c) Q := by
  refine e_L (L' := [some (aR 188), some (aI v1), some (aI v2)]) (st' := [aI v2]) (show decode (mC 209) 21 = .ok (.iload_n 2, 1) by decide +kernel) rfl rfl ?_
  refine e_L (L' := [some (aR 188), some (aI v1), some (aI v2)]) (st' := [aI v1, aI v2]) (show decode (mC 209) 22 = .ok (.iload_n 1, 1) by decide +kernel) rfl rfl ?_
  refine e_ge2 (t := 36) (show decode (mC 209) 23 = .ok (.if_icmp .ge 13, 3) by decide +kernel) (by decide) s0 s1 (fun p1 => ?_) (fun p1 => ?_)
  · refine e_L (L' := [some (aR 188), some (aI v1), some (aI v2)]) (st' := [aR 188]) (show decode (mC 209) 36 = .ok (.aload_n 0, 1) by decide +kernel) rfl (by show (if 188 = 0 then none else some (_, _)) = _; rw [if_neg (by decide)]) ?_
    refine e_getR (w := 190) (show decode (mC 209) 37 = .ok (.getfield 33, 3) by decide +kernel) (show pl 12 33 = some (0, 12, 6, 0) by decide +kernel) (by decide) (sh_ok hG (by decide +kernel)) (sh_rf hG (by decide +kernel)) ?_
    refine e_P (st' := [aI 168, aR 190]) (show decode (mC 209) 40 = .ok (.sipush 168, 3) by decide +kernel) rfl rfl rfl ?_
    refine e_ialdx (n := 514) (show decode (mC 209) 43 = .ok (.iaload, 1) by decide +kernel) (sh_ok hG (by decide +kernel)) (sh_ln hG (by decide +kernel)) (by decide) (by decide) (by decide) ex1 ?_
    exact e_iret (show decode (mC 209) 44 = .ok (.ireturn, 1) by decide +kernel) rfl (z3 p1)
  · refine e_L (L' := [some (aR 188), some (aI v1), some (aI v2)]) (st' := [aR 188]) (show decode (mC 209) 26 = .ok (.aload_n 0, 1) by decide +kernel) rfl (by show (if 188 = 0 then none else some (_, _)) = _; rw [if_neg (by decide)]) ?_
    exact e_V (as := [aR 188]) (rest := []) (show decode (mC 209) 27 = .ok (.invokevirtual 287, 3) by decide +kernel) (by decide +kernel) (show (decide ((1 : Nat) = mA 202) && decide (202 < q_law)) = true by decide +kernel) rfl (show (0 : Nat) ≤ 8 by decide) (show (1 : Nat) ≤ mL 202 by decide +kernel) rfl (sh_ok hG (by decide +kernel)) (m4 p1)
/-- SoulOfficeModel.days(I)I, from 30 -/
theorem b209_30 (hG : Shp G) {v1 v2 : Int}
    (k0 : T (d + 1) 209 21 [some (aR 188), some (aI v1), some (aI (v2 + 1))] [] (G, c) Q) :
    T (d + 1) 209 30 [some (aR 188), some (aI v1), some (aI v2)] [] (G, c) Q := by
  refine e_L (L' := [some (aR 188), some (aI v1), some (aI (v2 + 1))]) (st' := []) (show decode (mC 209) 30 = .ok (.iinc 2 1, 3) by decide +kernel) rfl rfl ?_
  refine e_go (t := 21) (show decode (mC 209) 33 = .ok (.goto (-12), 3) by decide +kernel) (by decide) ?_
  exact k0
/-- SoulOfficeModel.clerk(I)I, from 0 -/
theorem b210_0 (hG : Shp G) {v1 : Int}
    (m0 : TM d 208 [aR 188, aI v1] (G, (q_up c 188 0 0)) (fun r h' => T (d + 1) 210 10 [some (aR 188), some (aI v1), none] (r.toList ++ []) h' Q)) :
    T (d + 1) 210 0 [some (aR 188), some (aI v1), none] [] (G, c) Q := by
  refine e_L (L' := [some (aR 188), some (aI v1), none]) (st' := [aR 188]) (show decode (mC 210) 0 = .ok (.aload_n 0, 1) by decide +kernel) rfl (by show (if 188 = 0 then none else some (_, _)) = _; rw [if_neg (by decide)]) ?_
  refine e_P (st' := [aI 0, aR 188]) (show decode (mC 210) 1 = .ok (.iconst 0, 1) by decide +kernel) rfl rfl rfl ?_
  refine e_putI (show decode (mC 210) 2 = .ok (.putfield 1, 3) by decide +kernel) (show pl 12 1 = some (0, 12, 0, 0) by decide +kernel) (by decide) (sh_ok hG (by decide +kernel)) ?_
  refine e_L (L' := [some (aR 188), some (aI v1), none]) (st' := [aR 188]) (show decode (mC 210) 5 = .ok (.aload_n 0, 1) by decide +kernel) rfl (by show (if 188 = 0 then none else some (_, _)) = _; rw [if_neg (by decide)]) ?_
  refine e_L (L' := [some (aR 188), some (aI v1), none]) (st' := [aI v1, aR 188]) (show decode (mC 210) 6 = .ok (.iload_n 1, 1) by decide +kernel) rfl rfl ?_
  exact e_V (as := [aR 188, aI v1]) (rest := []) (show decode (mC 210) 7 = .ok (.invokevirtual 293, 3) by decide +kernel) (by decide +kernel) (show (decide ((2 : Nat) = mA 208) && decide (208 < q_law)) = true by decide +kernel) rfl (show (0 : Nat) ≤ 8 by decide) (show (2 : Nat) ≤ mL 208 by decide +kernel) rfl (sh_ok hG (by decide +kernel)) m0
/-- SoulOfficeModel.clerk(I)I, from 10 -/
theorem b210_10 (hG : Shp G) {v1 u0 : Int}
    (s0 : -2147483648 ≤ u0 ∧ u0 < 2147483648)
    (m1 : (¬ u0 = 0) → TM d 212 [aR 188] (G, c) (fun r h' => T (d + 1) 210 19 [some (aR 188), some (aI v1), none] (r.toList ++ []) h' Q))
    (z2 : (u0 = 0) → Q (.inl (some (aI (-1)))) (G, c)) :
    T (d + 1) 210 10 [some (aR 188), some (aI v1), none] [aI u0] (G, c) Q := by
  refine e_ne1 (t := 15) (show decode (mC 210) 10 = .ok (.ifCond .ne 5, 3) by decide +kernel) (by decide) s0 (fun p1 => ?_) (fun p1 => ?_)
  · refine e_L (L' := [some (aR 188), some (aI v1), none]) (st' := [aR 188]) (show decode (mC 210) 15 = .ok (.aload_n 0, 1) by decide +kernel) rfl (by show (if 188 = 0 then none else some (_, _)) = _; rw [if_neg (by decide)]) ?_
    exact e_V (as := [aR 188]) (rest := []) (show decode (mC 210) 16 = .ok (.invokevirtual 290, 3) by decide +kernel) (by decide +kernel) (show (decide ((1 : Nat) = mA 212) && decide (212 < q_law)) = true by decide +kernel) rfl (show (0 : Nat) ≤ 8 by decide) (show (1 : Nat) ≤ mL 212 by decide +kernel) rfl (sh_ok hG (by decide +kernel)) (m1 p1)
  · refine e_P (st' := [aI (-1)]) (show decode (mC 210) 13 = .ok (.iconst (-1), 1) by decide +kernel) rfl rfl rfl ?_
    exact e_iret (show decode (mC 210) 14 = .ok (.ireturn, 1) by decide +kernel) rfl (z2 p1)
/-- SoulOfficeModel.clerk(I)I, from 19 -/
theorem b210_19 (hG : Shp G) {v1 : Int}
    (k0 : T (d + 1) 210 21 [some (aR 188), some (aI v1), some (aI 0)] [] (G, c) Q) :
    T (d + 1) 210 19 [some (aR 188), some (aI v1), none] [] (G, c) Q := by
  refine e_P (st' := [aI 0]) (show decode (mC 210) 19 = .ok (.iconst 0, 1) by decide +kernel) rfl rfl rfl ?_
  refine e_L (L' := [some (aR 188), some (aI v1), some (aI 0)]) (st' := []) (show decode (mC 210) 20 = .ok (.istore_n 2, 1) by decide +kernel) rfl rfl ?_
  exact k0
/-- SoulOfficeModel.clerk(I)I, from 21 -/
theorem b210_21 (hG : Shp G) {v1 v2 x1 : Int}
    (s0 : -2147483648 ≤ v2 ∧ v2 < 2147483648)
    (s1 : -2147483648 ≤ v1 ∧ v1 < 2147483648)
    (ex1 : c 190 168 = x1)
    (z3 : (v1 ≤ v2) → Q (.inl (some (aI x1))) (G, c))
    (m4 : (v2 < v1) → TM d 205 [aR 188] (G, c) (fun r h' => T (d + 1) 210 30 [some (aR 188), some (aI v1), some (aI v2)] (r.toList ++ []) h' Q)) :
    T (d + 1) 210 21 [some (aR 188), some (aI v1), some (aI v2)] [] (G, c) Q := by
  refine e_L (L' := [some (aR 188), some (aI v1), some (aI v2)]) (st' := [aI v2]) (show decode (mC 210) 21 = .ok (.iload_n 2, 1) by decide +kernel) rfl rfl ?_
  refine e_L (L' := [some (aR 188), some (aI v1), some (aI v2)]) (st' := [aI v1, aI v2]) (show decode (mC 210) 22 = .ok (.iload_n 1, 1) by decide +kernel) rfl rfl ?_
  refine e_ge2 (t := 36) (show decode (mC 210) 23 = .ok (.if_icmp .ge 13, 3) by decide +kernel) (by decide) s0 s1 (fun p1 => ?_) (fun p1 => ?_)
  · refine e_L (L' := [some (aR 188), some (aI v1), some (aI v2)]) (st' := [aR 188]) (show decode (mC 210) 36 = .ok (.aload_n 0, 1) by decide +kernel) rfl (by show (if 188 = 0 then none else some (_, _)) = _; rw [if_neg (by decide)]) ?_
    refine e_getR (w := 190) (show decode (mC 210) 37 = .ok (.getfield 33, 3) by decide +kernel) (show pl 12 33 = some (0, 12, 6, 0) by decide +kernel) (by decide) (sh_ok hG (by decide +kernel)) (sh_rf hG (by decide +kernel)) ?_
    refine e_P (st' := [aI 168, aR 190]) (show decode (mC 210) 40 = .ok (.sipush 168, 3) by decide +kernel) rfl rfl rfl ?_
    refine e_ialdx (n := 514) (show decode (mC 210) 43 = .ok (.iaload, 1) by decide +kernel) (sh_ok hG (by decide +kernel)) (sh_ln hG (by decide +kernel)) (by decide) (by decide) (by decide) ex1 ?_
    exact e_iret (show decode (mC 210) 44 = .ok (.ireturn, 1) by decide +kernel) rfl (z3 p1)
  · refine e_L (L' := [some (aR 188), some (aI v1), some (aI v2)]) (st' := [aR 188]) (show decode (mC 210) 26 = .ok (.aload_n 0, 1) by decide +kernel) rfl (by show (if 188 = 0 then none else some (_, _)) = _; rw [if_neg (by decide)]) ?_
    exact e_V (as := [aR 188]) (rest := []) (show decode (mC 210) 27 = .ok (.invokevirtual 296, 3) by decide +kernel) (by decide +kernel) (show (decide ((1 : Nat) = mA 205) && decide (205 < q_law)) = true by decide +kernel) rfl (show (0 : Nat) ≤ 8 by decide) (show (1 : Nat) ≤ mL 205 by decide +kernel) rfl (sh_ok hG (by decide +kernel)) (m4 p1)
/-- SoulOfficeModel.clerk(I)I, from 30 -/
theorem b210_30 (hG : Shp G) {v1 v2 : Int}
    (k0 : T (d + 1) 210 21 [some (aR 188), some (aI v1), some (aI (v2 + 1))] [] (G, c) Q) :
    T (d + 1) 210 30 [some (aR 188), some (aI v1), some (aI v2)] [] (G, c) Q := by
  refine e_L (L' := [some (aR 188), some (aI v1), some (aI (v2 + 1))]) (st' := []) (show decode (mC 210) 30 = .ok (.iinc 2 1, 3) by decide +kernel) rfl rfl ?_
  refine e_go (t := 21) (show decode (mC 210) 33 = .ok (.goto (-12), 3) by decide +kernel) (by decide) ?_
  exact k0
/-- SoulOfficeModel.settled(II)I, from 0 -/
theorem b211_0 (hG : Shp G) {v1 v2 : Int}
    (m0 : TM d 188 [aR 188, aI v1] (G, (q_up c 188 0 0)) (fun r h' => T (d + 1) 211 10 [some (aR 188), some (aI v1), some (aI v2)] (r.toList ++ []) h' Q)) :
    T (d + 1) 211 0 [some (aR 188), some (aI v1), some (aI v2)] [] (G, c) Q := by
  refine e_L (L' := [some (aR 188), some (aI v1), some (aI v2)]) (st' := [aR 188]) (show decode (mC 211) 0 = .ok (.aload_n 0, 1) by decide +kernel) rfl (by show (if 188 = 0 then none else some (_, _)) = _; rw [if_neg (by decide)]) ?_
  refine e_P (st' := [aI 0, aR 188]) (show decode (mC 211) 1 = .ok (.iconst 0, 1) by decide +kernel) rfl rfl rfl ?_
  refine e_putI (show decode (mC 211) 2 = .ok (.putfield 1, 3) by decide +kernel) (show pl 12 1 = some (0, 12, 0, 0) by decide +kernel) (by decide) (sh_ok hG (by decide +kernel)) ?_
  refine e_L (L' := [some (aR 188), some (aI v1), some (aI v2)]) (st' := [aR 188]) (show decode (mC 211) 5 = .ok (.aload_n 0, 1) by decide +kernel) rfl (by show (if 188 = 0 then none else some (_, _)) = _; rw [if_neg (by decide)]) ?_
  refine e_L (L' := [some (aR 188), some (aI v1), some (aI v2)]) (st' := [aI v1, aR 188]) (show decode (mC 211) 6 = .ok (.iload_n 1, 1) by decide +kernel) rfl rfl ?_
  exact e_V (as := [aR 188, aI v1]) (rest := []) (show decode (mC 211) 7 = .ok (.invokevirtual 248, 3) by decide +kernel) (by decide +kernel) (show (decide ((2 : Nat) = mA 188) && decide (188 < q_law)) = true by decide +kernel) rfl (show (0 : Nat) ≤ 8 by decide) (show (2 : Nat) ≤ mL 188 by decide +kernel) rfl (sh_ok hG (by decide +kernel)) m0
/-- SoulOfficeModel.settled(II)I, from 10 -/
theorem b211_10 (hG : Shp G) {v1 v2 u0 : Int}
    (s0 : -2147483648 ≤ u0 ∧ u0 < 2147483648)
    (z1 : (u0 = 0) → Q (.inl (some (aI (-1)))) (G, c))
    (m2 : (¬ u0 = 0) → TM d 188 [aR 188, aI v2] (G, c) (fun r h' => T (d + 1) 211 18 [some (aR 188), some (aI v1), some (aI v2)] (r.toList ++ []) h' Q)) :
    T (d + 1) 211 10 [some (aR 188), some (aI v1), some (aI v2)] [aI u0] (G, c) Q := by
  refine e_eq1 (t := 56) (show decode (mC 211) 10 = .ok (.ifCond .eq 46, 3) by decide +kernel) (by decide) s0 (fun p1 => ?_) (fun p1 => ?_)
  · refine e_P (st' := [aI (-1)]) (show decode (mC 211) 56 = .ok (.iconst (-1), 1) by decide +kernel) rfl rfl rfl ?_
    exact e_iret (show decode (mC 211) 57 = .ok (.ireturn, 1) by decide +kernel) rfl (z1 p1)
  · refine e_L (L' := [some (aR 188), some (aI v1), some (aI v2)]) (st' := [aR 188]) (show decode (mC 211) 13 = .ok (.aload_n 0, 1) by decide +kernel) rfl (by show (if 188 = 0 then none else some (_, _)) = _; rw [if_neg (by decide)]) ?_
    refine e_L (L' := [some (aR 188), some (aI v1), some (aI v2)]) (st' := [aI v2, aR 188]) (show decode (mC 211) 14 = .ok (.iload_n 2, 1) by decide +kernel) rfl rfl ?_
    exact e_V (as := [aR 188, aI v2]) (rest := []) (show decode (mC 211) 15 = .ok (.invokevirtual 248, 3) by decide +kernel) (by decide +kernel) (show (decide ((2 : Nat) = mA 188) && decide (188 < q_law)) = true by decide +kernel) rfl (show (0 : Nat) ≤ 8 by decide) (show (2 : Nat) ≤ mL 188 by decide +kernel) rfl (sh_ok hG (by decide +kernel)) (m2 p1)
/-- SoulOfficeModel.settled(II)I, from 18 -/
theorem b211_18 (hG : Shp G) {v1 v2 u0 x1 x2 : Int}
    (s0 : -2147483648 ≤ u0 ∧ u0 < 2147483648)
    (z1 : (u0 = 0) → Q (.inl (some (aI (-1)))) (G, c))
    (s2 : (¬ u0 = 0) → -2147483648 ≤ v1 ∧ v1 < 2147483648)
    (s3 : (¬ u0 = 0) → -2147483648 ≤ v2 ∧ v2 < 2147483648)
    (z4 : (¬ u0 = 0) → (v1 = v2) → Q (.inl (some (aI (-1)))) (G, c))
    (ex1 : c 190 172 = x1)
    (s6 : (¬ u0 = 0) → (¬ v1 = v2) → -2147483648 ≤ x1 ∧ x1 < 2147483648)
    (z7 : (¬ u0 = 0) → (¬ v1 = v2) → (¬ x1 = 1) → Q (.inl (some (aI (-1)))) (G, c))
    (s8 : (¬ u0 = 0) → (¬ v1 = v2) → (x1 = 1) → 0 ≤ ((269 + (8 * v1)) + v2))
    (s9 : (¬ u0 = 0) → (¬ v1 = v2) → (x1 = 1) → ((269 + (8 * v1)) + v2) < 514)
    (ex2 : c 190 ((269 + (8 * v1)) + v2) = x2)
    (z11 : (¬ u0 = 0) → (¬ v1 = v2) → (x1 = 1) → Q (.inl (some (aI x2))) (G, c)) :
    T (d + 1) 211 18 [some (aR 188), some (aI v1), some (aI v2)] [aI u0] (G, c) Q := by
  refine e_eq1 (t := 56) (show decode (mC 211) 18 = .ok (.ifCond .eq 38, 3) by decide +kernel) (by decide) s0 (fun p1 => ?_) (fun p1 => ?_)
  · refine e_P (st' := [aI (-1)]) (show decode (mC 211) 56 = .ok (.iconst (-1), 1) by decide +kernel) rfl rfl rfl ?_
    exact e_iret (show decode (mC 211) 57 = .ok (.ireturn, 1) by decide +kernel) rfl (z1 p1)
  · refine e_L (L' := [some (aR 188), some (aI v1), some (aI v2)]) (st' := [aI v1]) (show decode (mC 211) 21 = .ok (.iload_n 1, 1) by decide +kernel) rfl rfl ?_
    refine e_L (L' := [some (aR 188), some (aI v1), some (aI v2)]) (st' := [aI v2, aI v1]) (show decode (mC 211) 22 = .ok (.iload_n 2, 1) by decide +kernel) rfl rfl ?_
    refine e_eq2 (t := 56) (show decode (mC 211) 23 = .ok (.if_icmp .eq 33, 3) by decide +kernel) (by decide) (s2 p1) (s3 p1) (fun p2 => ?_) (fun p2 => ?_)
    · refine e_P (st' := [aI (-1)]) (show decode (mC 211) 56 = .ok (.iconst (-1), 1) by decide +kernel) rfl rfl rfl ?_
      exact e_iret (show decode (mC 211) 57 = .ok (.ireturn, 1) by decide +kernel) rfl (z4 p1 p2)
    · refine e_L (L' := [some (aR 188), some (aI v1), some (aI v2)]) (st' := [aR 188]) (show decode (mC 211) 26 = .ok (.aload_n 0, 1) by decide +kernel) rfl (by show (if 188 = 0 then none else some (_, _)) = _; rw [if_neg (by decide)]) ?_
      refine e_getR (w := 190) (show decode (mC 211) 27 = .ok (.getfield 33, 3) by decide +kernel) (show pl 12 33 = some (0, 12, 6, 0) by decide +kernel) (by decide) (sh_ok hG (by decide +kernel)) (sh_rf hG (by decide +kernel)) ?_
      refine e_P (st' := [aI 172, aR 190]) (show decode (mC 211) 30 = .ok (.sipush 172, 3) by decide +kernel) rfl rfl rfl ?_
      refine e_ialdx (n := 514) (show decode (mC 211) 33 = .ok (.iaload, 1) by decide +kernel) (sh_ok hG (by decide +kernel)) (sh_ln hG (by decide +kernel)) (by decide) (by decide) (by decide) ex1 ?_
      refine e_P (st' := [aI 1, aI x1]) (show decode (mC 211) 34 = .ok (.iconst 1, 1) by decide +kernel) rfl rfl rfl ?_
      refine e_ne2 (t := 56) (show decode (mC 211) 35 = .ok (.if_icmp .ne 21, 3) by decide +kernel) (by decide) (s6 p1 p2) (by decide) (fun p3 => ?_) (fun p3 => ?_)
      · refine e_P (st' := [aI (-1)]) (show decode (mC 211) 56 = .ok (.iconst (-1), 1) by decide +kernel) rfl rfl rfl ?_
        exact e_iret (show decode (mC 211) 57 = .ok (.ireturn, 1) by decide +kernel) rfl (z7 p1 p2 p3)
      · refine e_L (L' := [some (aR 188), some (aI v1), some (aI v2)]) (st' := [aR 188]) (show decode (mC 211) 38 = .ok (.aload_n 0, 1) by decide +kernel) rfl (by show (if 188 = 0 then none else some (_, _)) = _; rw [if_neg (by decide)]) ?_
        refine e_getR (w := 190) (show decode (mC 211) 39 = .ok (.getfield 33, 3) by decide +kernel) (show pl 12 33 = some (0, 12, 6, 0) by decide +kernel) (by decide) (sh_ok hG (by decide +kernel)) (sh_rf hG (by decide +kernel)) ?_
        refine e_P (st' := [aI 269, aR 190]) (show decode (mC 211) 42 = .ok (.sipush 269, 3) by decide +kernel) rfl rfl rfl ?_
        refine e_P (st' := [aI 8, aI 269, aR 190]) (show decode (mC 211) 45 = .ok (.bipush 8, 2) by decide +kernel) rfl rfl rfl ?_
        refine e_L (L' := [some (aR 188), some (aI v1), some (aI v2)]) (st' := [aI v1, aI 8, aI 269, aR 190]) (show decode (mC 211) 47 = .ok (.iload_n 1, 1) by decide +kernel) rfl rfl ?_
        refine e_P (st' := [aI (8 * v1), aI 269, aR 190]) (show decode (mC 211) 48 = .ok (.imul, 1) by decide +kernel) rfl rfl rfl ?_
        refine e_P (st' := [aI (269 + (8 * v1)), aR 190]) (show decode (mC 211) 49 = .ok (.iadd, 1) by decide +kernel) rfl rfl rfl ?_
        refine e_L (L' := [some (aR 188), some (aI v1), some (aI v2)]) (st' := [aI v2, aI (269 + (8 * v1)), aR 190]) (show decode (mC 211) 50 = .ok (.iload_n 2, 1) by decide +kernel) rfl rfl ?_
        refine e_P (st' := [aI ((269 + (8 * v1)) + v2), aR 190]) (show decode (mC 211) 51 = .ok (.iadd, 1) by decide +kernel) rfl rfl rfl ?_
        refine e_ialdx (n := 514) (show decode (mC 211) 52 = .ok (.iaload, 1) by decide +kernel) (sh_ok hG (by decide +kernel)) (sh_ln hG (by decide +kernel)) (by decide) (s8 p1 p2 p3) (s9 p1 p2 p3) ex2 ?_
        refine e_go (t := 57) (show decode (mC 211) 53 = .ok (.goto 4, 3) by decide +kernel) (by decide) ?_
        exact e_iret (show decode (mC 211) 57 = .ok (.ireturn, 1) by decide +kernel) rfl (z11 p1 p2 p3)
/-- SoulOfficeModel.keep()V, from 0 -/
theorem b212_0 (hG : Shp G) {x1 : Int}
    (ex1 : c 188 23 = x1)
    (s1 : -2147483648 ≤ x1 ∧ x1 < 2147483648)
    (k2 : (¬ x1 = 8) → T d 212 48 [some (aR 188), some (aI 0)] [] (G, c) Q)
    (k3 : (x1 = 8) → T d 212 11 [some (aR 188), some (aI 0)] [] (G, c) Q) :
    T d 212 0 [some (aR 188), none] [] (G, c) Q := by
  refine e_L (L' := [some (aR 188), none]) (st' := [aR 188]) (show decode (mC 212) 0 = .ok (.aload_n 0, 1) by decide +kernel) rfl (by show (if 188 = 0 then none else some (_, _)) = _; rw [if_neg (by decide)]) ?_
  refine e_getIx (show decode (mC 212) 1 = .ok (.getfield 238, 3) by decide +kernel) (show pl 12 238 = some (0, 12, 23, 0) by decide +kernel) (by decide) (sh_ok hG (by decide +kernel)) ex1 ?_
  refine e_P (st' := [aI 8, aI x1]) (show decode (mC 212) 4 = .ok (.bipush 8, 2) by decide +kernel) rfl rfl rfl ?_
  refine e_ne2 (t := 46) (show decode (mC 212) 6 = .ok (.if_icmp .ne 40, 3) by decide +kernel) (by decide) s1 (by decide) (fun p1 => ?_) (fun p1 => ?_)
  · refine e_P (st' := [aI 0]) (show decode (mC 212) 46 = .ok (.iconst 0, 1) by decide +kernel) rfl rfl rfl ?_
    refine e_L (L' := [some (aR 188), some (aI 0)]) (st' := []) (show decode (mC 212) 47 = .ok (.istore_n 1, 1) by decide +kernel) rfl rfl ?_
    exact (k2 p1)
  · refine e_P (st' := [aI 0]) (show decode (mC 212) 9 = .ok (.iconst 0, 1) by decide +kernel) rfl rfl rfl ?_
    refine e_L (L' := [some (aR 188), some (aI 0)]) (st' := []) (show decode (mC 212) 10 = .ok (.istore_n 1, 1) by decide +kernel) rfl rfl ?_
    exact (k3 p1)
/-- SoulOfficeModel.keep()V, from 11 -/
theorem b212_11 (hG : Shp G) {v1 x1 : Int}
    (s0 : -2147483648 ≤ v1 ∧ v1 < 2147483648)
    (k1 : (1155 ≤ v1) → T d 212 48 [some (aR 188), some (aI 0)] [] (G, (q_up c 188 23 7)) Q)
    (s2 : (v1 < 1155) → 0 ≤ (v1 + 165))
    (s3 : (v1 < 1155) → (v1 + 165) < 1320)
    (ex1 : c 195 (v1 + 165) = x1)
    (s5 : (v1 < 1155) → 0 ≤ v1)
    (s6 : (v1 < 1155) → v1 < 1320)
    (k7 : (v1 < 1155) → T d 212 11 [some (aR 188), some (aI (v1 + 1))] [] (G, (q_up c 195 v1 x1)) Q) :
    T d 212 11 [some (aR 188), some (aI v1)] [] (G, c) Q := by
  refine e_L (L' := [some (aR 188), some (aI v1)]) (st' := [aI v1]) (show decode (mC 212) 11 = .ok (.iload_n 1, 1) by decide +kernel) rfl rfl ?_
  refine e_P (st' := [aI 1155, aI v1]) (show decode (mC 212) 12 = .ok (.sipush 1155, 3) by decide +kernel) rfl rfl rfl ?_
  refine e_ge2 (t := 40) (show decode (mC 212) 15 = .ok (.if_icmp .ge 25, 3) by decide +kernel) (by decide) s0 (by decide) (fun p1 => ?_) (fun p1 => ?_)
  · refine e_L (L' := [some (aR 188), some (aI v1)]) (st' := [aR 188]) (show decode (mC 212) 40 = .ok (.aload_n 0, 1) by decide +kernel) rfl (by show (if 188 = 0 then none else some (_, _)) = _; rw [if_neg (by decide)]) ?_
    refine e_P (st' := [aI 7, aR 188]) (show decode (mC 212) 41 = .ok (.bipush 7, 2) by decide +kernel) rfl rfl rfl ?_
    refine e_putI (show decode (mC 212) 43 = .ok (.putfield 238, 3) by decide +kernel) (show pl 12 238 = some (0, 12, 23, 0) by decide +kernel) (by decide) (sh_ok hG (by decide +kernel)) ?_
    refine e_P (st' := [aI 0]) (show decode (mC 212) 46 = .ok (.iconst 0, 1) by decide +kernel) rfl rfl rfl ?_
    refine e_L (L' := [some (aR 188), some (aI 0)]) (st' := []) (show decode (mC 212) 47 = .ok (.istore_n 1, 1) by decide +kernel) rfl rfl ?_
    exact (k1 p1)
  · refine e_L (L' := [some (aR 188), some (aI v1)]) (st' := [aR 188]) (show decode (mC 212) 18 = .ok (.aload_n 0, 1) by decide +kernel) rfl (by show (if 188 = 0 then none else some (_, _)) = _; rw [if_neg (by decide)]) ?_
    refine e_getR (w := 195) (show decode (mC 212) 19 = .ok (.getfield 50, 3) by decide +kernel) (show pl 12 50 = some (0, 12, 21, 0) by decide +kernel) (by decide) (sh_ok hG (by decide +kernel)) (sh_rf hG (by decide +kernel)) ?_
    refine e_L (L' := [some (aR 188), some (aI v1)]) (st' := [aI v1, aR 195]) (show decode (mC 212) 22 = .ok (.iload_n 1, 1) by decide +kernel) rfl rfl ?_
    refine e_L (L' := [some (aR 188), some (aI v1)]) (st' := [aR 188, aI v1, aR 195]) (show decode (mC 212) 23 = .ok (.aload_n 0, 1) by decide +kernel) rfl (by show (if 188 = 0 then none else some (_, _)) = _; rw [if_neg (by decide)]) ?_
    refine e_getR (w := 195) (show decode (mC 212) 24 = .ok (.getfield 50, 3) by decide +kernel) (show pl 12 50 = some (0, 12, 21, 0) by decide +kernel) (by decide) (sh_ok hG (by decide +kernel)) (sh_rf hG (by decide +kernel)) ?_
    refine e_L (L' := [some (aR 188), some (aI v1)]) (st' := [aI v1, aR 195, aI v1, aR 195]) (show decode (mC 212) 27 = .ok (.iload_n 1, 1) by decide +kernel) rfl rfl ?_
    refine e_P (st' := [aI 165, aI v1, aR 195, aI v1, aR 195]) (show decode (mC 212) 28 = .ok (.sipush 165, 3) by decide +kernel) rfl rfl rfl ?_
    refine e_P (st' := [aI (v1 + 165), aR 195, aI v1, aR 195]) (show decode (mC 212) 31 = .ok (.iadd, 1) by decide +kernel) rfl rfl rfl ?_
    refine e_ialdx (n := 1320) (show decode (mC 212) 32 = .ok (.iaload, 1) by decide +kernel) (sh_ok hG (by decide +kernel)) (sh_ln hG (by decide +kernel)) (by decide) (s2 p1) (s3 p1) ex1 ?_
    refine e_iast (n := 1320) (show decode (mC 212) 33 = .ok (.iastore, 1) by decide +kernel) (sh_ok hG (by decide +kernel)) (sh_ln hG (by decide +kernel)) (by decide) (s5 p1) (s6 p1) ?_
    refine e_L (L' := [some (aR 188), some (aI (v1 + 1))]) (st' := []) (show decode (mC 212) 34 = .ok (.iinc 1 1, 3) by decide +kernel) rfl rfl ?_
    refine e_go (t := 11) (show decode (mC 212) 37 = .ok (.goto (-26), 3) by decide +kernel) (by decide) ?_
    exact (k7 p1)
/-- SoulOfficeModel.keep()V, from 48 -/
theorem b212_48 (hG : Shp G) {v1 x1 x2 x3 : Int}
    (s0 : -2147483648 ≤ v1 ∧ v1 < 2147483648)
    (ex1 : c 188 23 = x1)
    (z2 : (165 ≤ v1) → Q (.inl none) (G, (q_up c 188 23 (x1 + 1))))
    (ex2 : c 188 23 = x2)
    (s4 : (v1 < 165) → 0 ≤ (168 + v1))
    (s5 : (v1 < 165) → (168 + v1) < 514)
    (ex3 : c 190 (168 + v1) = x3)
    (s7 : (v1 < 165) → 0 ≤ ((165 * x2) + v1))
    (s8 : (v1 < 165) → ((165 * x2) + v1) < 1320)
    (k9 : (v1 < 165) → T d 212 48 [some (aR 188), some (aI (v1 + 1))] [] (G, (q_up c 195 ((165 * x2) + v1) x3)) Q) :
    T d 212 48 [some (aR 188), some (aI v1)] [] (G, c) Q := by
  refine e_L (L' := [some (aR 188), some (aI v1)]) (st' := [aI v1]) (show decode (mC 212) 48 = .ok (.iload_n 1, 1) by decide +kernel) rfl rfl ?_
  refine e_P (st' := [aI 165, aI v1]) (show decode (mC 212) 49 = .ok (.sipush 165, 3) by decide +kernel) rfl rfl rfl ?_
  refine e_ge2 (t := 86) (show decode (mC 212) 52 = .ok (.if_icmp .ge 34, 3) by decide +kernel) (by decide) s0 (by decide) (fun p1 => ?_) (fun p1 => ?_)
  · refine e_L (L' := [some (aR 188), some (aI v1)]) (st' := [aR 188]) (show decode (mC 212) 86 = .ok (.aload_n 0, 1) by decide +kernel) rfl (by show (if 188 = 0 then none else some (_, _)) = _; rw [if_neg (by decide)]) ?_
    refine e_P (st' := [aR 188, aR 188]) (show decode (mC 212) 87 = .ok (.dup, 1) by decide +kernel) rfl rfl rfl ?_
    refine e_getIx (show decode (mC 212) 88 = .ok (.getfield 238, 3) by decide +kernel) (show pl 12 238 = some (0, 12, 23, 0) by decide +kernel) (by decide) (sh_ok hG (by decide +kernel)) ex1 ?_
    refine e_P (st' := [aI 1, aI x1, aR 188]) (show decode (mC 212) 91 = .ok (.iconst 1, 1) by decide +kernel) rfl rfl rfl ?_
    refine e_P (st' := [aI (x1 + 1), aR 188]) (show decode (mC 212) 92 = .ok (.iadd, 1) by decide +kernel) rfl rfl rfl ?_
    refine e_putI (show decode (mC 212) 93 = .ok (.putfield 238, 3) by decide +kernel) (show pl 12 238 = some (0, 12, 23, 0) by decide +kernel) (by decide) (sh_ok hG (by decide +kernel)) ?_
    exact e_vret (show decode (mC 212) 96 = .ok (.return_, 1) by decide +kernel) rfl (z2 p1)
  · refine e_L (L' := [some (aR 188), some (aI v1)]) (st' := [aR 188]) (show decode (mC 212) 55 = .ok (.aload_n 0, 1) by decide +kernel) rfl (by show (if 188 = 0 then none else some (_, _)) = _; rw [if_neg (by decide)]) ?_
    refine e_getR (w := 195) (show decode (mC 212) 56 = .ok (.getfield 50, 3) by decide +kernel) (show pl 12 50 = some (0, 12, 21, 0) by decide +kernel) (by decide) (sh_ok hG (by decide +kernel)) (sh_rf hG (by decide +kernel)) ?_
    refine e_P (st' := [aI 165, aR 195]) (show decode (mC 212) 59 = .ok (.sipush 165, 3) by decide +kernel) rfl rfl rfl ?_
    refine e_L (L' := [some (aR 188), some (aI v1)]) (st' := [aR 188, aI 165, aR 195]) (show decode (mC 212) 62 = .ok (.aload_n 0, 1) by decide +kernel) rfl (by show (if 188 = 0 then none else some (_, _)) = _; rw [if_neg (by decide)]) ?_
    refine e_getIx (show decode (mC 212) 63 = .ok (.getfield 238, 3) by decide +kernel) (show pl 12 238 = some (0, 12, 23, 0) by decide +kernel) (by decide) (sh_ok hG (by decide +kernel)) ex2 ?_
    refine e_P (st' := [aI (165 * x2), aR 195]) (show decode (mC 212) 66 = .ok (.imul, 1) by decide +kernel) rfl rfl rfl ?_
    refine e_L (L' := [some (aR 188), some (aI v1)]) (st' := [aI v1, aI (165 * x2), aR 195]) (show decode (mC 212) 67 = .ok (.iload_n 1, 1) by decide +kernel) rfl rfl ?_
    refine e_P (st' := [aI ((165 * x2) + v1), aR 195]) (show decode (mC 212) 68 = .ok (.iadd, 1) by decide +kernel) rfl rfl rfl ?_
    refine e_L (L' := [some (aR 188), some (aI v1)]) (st' := [aR 188, aI ((165 * x2) + v1), aR 195]) (show decode (mC 212) 69 = .ok (.aload_n 0, 1) by decide +kernel) rfl (by show (if 188 = 0 then none else some (_, _)) = _; rw [if_neg (by decide)]) ?_
    refine e_getR (w := 190) (show decode (mC 212) 70 = .ok (.getfield 33, 3) by decide +kernel) (show pl 12 33 = some (0, 12, 6, 0) by decide +kernel) (by decide) (sh_ok hG (by decide +kernel)) (sh_rf hG (by decide +kernel)) ?_
    refine e_P (st' := [aI 168, aR 190, aI ((165 * x2) + v1), aR 195]) (show decode (mC 212) 73 = .ok (.sipush 168, 3) by decide +kernel) rfl rfl rfl ?_
    refine e_L (L' := [some (aR 188), some (aI v1)]) (st' := [aI v1, aI 168, aR 190, aI ((165 * x2) + v1), aR 195]) (show decode (mC 212) 76 = .ok (.iload_n 1, 1) by decide +kernel) rfl rfl ?_
    refine e_P (st' := [aI (168 + v1), aR 190, aI ((165 * x2) + v1), aR 195]) (show decode (mC 212) 77 = .ok (.iadd, 1) by decide +kernel) rfl rfl rfl ?_
    refine e_ialdx (n := 514) (show decode (mC 212) 78 = .ok (.iaload, 1) by decide +kernel) (sh_ok hG (by decide +kernel)) (sh_ln hG (by decide +kernel)) (by decide) (s4 p1) (s5 p1) ex3 ?_
    refine e_iast (n := 1320) (show decode (mC 212) 79 = .ok (.iastore, 1) by decide +kernel) (sh_ok hG (by decide +kernel)) (sh_ln hG (by decide +kernel)) (by decide) (s7 p1) (s8 p1) ?_
    refine e_L (L' := [some (aR 188), some (aI (v1 + 1))]) (st' := []) (show decode (mC 212) 80 = .ok (.iinc 1 1, 3) by decide +kernel) rfl rfl ?_
    refine e_go (t := 48) (show decode (mC 212) 83 = .ok (.goto (-35), 3) by decide +kernel) (by decide) ?_
    exact (k9 p1)
/-- SoulOfficeModel.undo()I, from 0 -/
theorem b213_0 (hG : Shp G) {x1 x2 : Int}
    (ex1 : (q_up c 188 0 0) 188 23 = x1)
    (s1 : -2147483648 ≤ x1 ∧ x1 < 2147483648)
    (ex2 : (q_up c 188 0 0) 188 23 = x2)
    (k3 : (¬ x1 = 0) → T d 213 26 [some (aR 188), some (aI 0)] [] (G, (q_up (q_up c 188 0 0) 188 23 (x2 - 1))) Q)
    (z4 : (x1 = 0) → Q (.inl (some (aI (-1)))) (G, (q_up c 188 0 0))) :
    T d 213 0 [some (aR 188), none] [] (G, c) Q := by
  refine e_L (L' := [some (aR 188), none]) (st' := [aR 188]) (show decode (mC 213) 0 = .ok (.aload_n 0, 1) by decide +kernel) rfl (by show (if 188 = 0 then none else some (_, _)) = _; rw [if_neg (by decide)]) ?_
  refine e_P (st' := [aI 0, aR 188]) (show decode (mC 213) 1 = .ok (.iconst 0, 1) by decide +kernel) rfl rfl rfl ?_
  refine e_putI (show decode (mC 213) 2 = .ok (.putfield 1, 3) by decide +kernel) (show pl 12 1 = some (0, 12, 0, 0) by decide +kernel) (by decide) (sh_ok hG (by decide +kernel)) ?_
  refine e_L (L' := [some (aR 188), none]) (st' := [aR 188]) (show decode (mC 213) 5 = .ok (.aload_n 0, 1) by decide +kernel) rfl (by show (if 188 = 0 then none else some (_, _)) = _; rw [if_neg (by decide)]) ?_
  refine e_getIx (show decode (mC 213) 6 = .ok (.getfield 238, 3) by decide +kernel) (show pl 12 238 = some (0, 12, 23, 0) by decide +kernel) (by decide) (sh_ok hG (by decide +kernel)) ex1 ?_
  refine e_ne1 (t := 14) (show decode (mC 213) 9 = .ok (.ifCond .ne 5, 3) by decide +kernel) (by decide) s1 (fun p1 => ?_) (fun p1 => ?_)
  · refine e_L (L' := [some (aR 188), none]) (st' := [aR 188]) (show decode (mC 213) 14 = .ok (.aload_n 0, 1) by decide +kernel) rfl (by show (if 188 = 0 then none else some (_, _)) = _; rw [if_neg (by decide)]) ?_
    refine e_P (st' := [aR 188, aR 188]) (show decode (mC 213) 15 = .ok (.dup, 1) by decide +kernel) rfl rfl rfl ?_
    refine e_getIx (show decode (mC 213) 16 = .ok (.getfield 238, 3) by decide +kernel) (show pl 12 238 = some (0, 12, 23, 0) by decide +kernel) (by decide) (sh_ok hG (by decide +kernel)) ex2 ?_
    refine e_P (st' := [aI 1, aI x2, aR 188]) (show decode (mC 213) 19 = .ok (.iconst 1, 1) by decide +kernel) rfl rfl rfl ?_
    refine e_P (st' := [aI (x2 - 1), aR 188]) (show decode (mC 213) 20 = .ok (.isub, 1) by decide +kernel) rfl rfl rfl ?_
    refine e_putI (show decode (mC 213) 21 = .ok (.putfield 238, 3) by decide +kernel) (show pl 12 238 = some (0, 12, 23, 0) by decide +kernel) (by decide) (sh_ok hG (by decide +kernel)) ?_
    refine e_P (st' := [aI 0]) (show decode (mC 213) 24 = .ok (.iconst 0, 1) by decide +kernel) rfl rfl rfl ?_
    refine e_L (L' := [some (aR 188), some (aI 0)]) (st' := []) (show decode (mC 213) 25 = .ok (.istore_n 1, 1) by decide +kernel) rfl rfl ?_
    exact (k3 p1)
  · refine e_P (st' := [aI (-1)]) (show decode (mC 213) 12 = .ok (.iconst (-1), 1) by decide +kernel) rfl rfl rfl ?_
    exact e_iret (show decode (mC 213) 13 = .ok (.ireturn, 1) by decide +kernel) rfl (z4 p1)
/-- SoulOfficeModel.undo()I, from 26 -/
theorem b213_26 (hG : Shp G) {v1 x1 x2 x3 : Int}
    (s0 : -2147483648 ≤ v1 ∧ v1 < 2147483648)
    (ex1 : c 188 23 = x1)
    (z2 : (165 ≤ v1) → Q (.inl (some (aI x1))) (G, c))
    (ex2 : c 188 23 = x2)
    (s4 : (v1 < 165) → 0 ≤ ((165 * x2) + v1))
    (s5 : (v1 < 165) → ((165 * x2) + v1) < 1320)
    (ex3 : c 195 ((165 * x2) + v1) = x3)
    (s7 : (v1 < 165) → 0 ≤ (168 + v1))
    (s8 : (v1 < 165) → (168 + v1) < 514)
    (k9 : (v1 < 165) → T d 213 26 [some (aR 188), some (aI (v1 + 1))] [] (G, (q_up c 190 (168 + v1) x3)) Q) :
    T d 213 26 [some (aR 188), some (aI v1)] [] (G, c) Q := by
  refine e_L (L' := [some (aR 188), some (aI v1)]) (st' := [aI v1]) (show decode (mC 213) 26 = .ok (.iload_n 1, 1) by decide +kernel) rfl rfl ?_
  refine e_P (st' := [aI 165, aI v1]) (show decode (mC 213) 27 = .ok (.sipush 165, 3) by decide +kernel) rfl rfl rfl ?_
  refine e_ge2 (t := 64) (show decode (mC 213) 30 = .ok (.if_icmp .ge 34, 3) by decide +kernel) (by decide) s0 (by decide) (fun p1 => ?_) (fun p1 => ?_)
  · refine e_L (L' := [some (aR 188), some (aI v1)]) (st' := [aR 188]) (show decode (mC 213) 64 = .ok (.aload_n 0, 1) by decide +kernel) rfl (by show (if 188 = 0 then none else some (_, _)) = _; rw [if_neg (by decide)]) ?_
    refine e_getIx (show decode (mC 213) 65 = .ok (.getfield 238, 3) by decide +kernel) (show pl 12 238 = some (0, 12, 23, 0) by decide +kernel) (by decide) (sh_ok hG (by decide +kernel)) ex1 ?_
    exact e_iret (show decode (mC 213) 68 = .ok (.ireturn, 1) by decide +kernel) rfl (z2 p1)
  · refine e_L (L' := [some (aR 188), some (aI v1)]) (st' := [aR 188]) (show decode (mC 213) 33 = .ok (.aload_n 0, 1) by decide +kernel) rfl (by show (if 188 = 0 then none else some (_, _)) = _; rw [if_neg (by decide)]) ?_
    refine e_getR (w := 190) (show decode (mC 213) 34 = .ok (.getfield 33, 3) by decide +kernel) (show pl 12 33 = some (0, 12, 6, 0) by decide +kernel) (by decide) (sh_ok hG (by decide +kernel)) (sh_rf hG (by decide +kernel)) ?_
    refine e_P (st' := [aI 168, aR 190]) (show decode (mC 213) 37 = .ok (.sipush 168, 3) by decide +kernel) rfl rfl rfl ?_
    refine e_L (L' := [some (aR 188), some (aI v1)]) (st' := [aI v1, aI 168, aR 190]) (show decode (mC 213) 40 = .ok (.iload_n 1, 1) by decide +kernel) rfl rfl ?_
    refine e_P (st' := [aI (168 + v1), aR 190]) (show decode (mC 213) 41 = .ok (.iadd, 1) by decide +kernel) rfl rfl rfl ?_
    refine e_L (L' := [some (aR 188), some (aI v1)]) (st' := [aR 188, aI (168 + v1), aR 190]) (show decode (mC 213) 42 = .ok (.aload_n 0, 1) by decide +kernel) rfl (by show (if 188 = 0 then none else some (_, _)) = _; rw [if_neg (by decide)]) ?_
    refine e_getR (w := 195) (show decode (mC 213) 43 = .ok (.getfield 50, 3) by decide +kernel) (show pl 12 50 = some (0, 12, 21, 0) by decide +kernel) (by decide) (sh_ok hG (by decide +kernel)) (sh_rf hG (by decide +kernel)) ?_
    refine e_P (st' := [aI 165, aR 195, aI (168 + v1), aR 190]) (show decode (mC 213) 46 = .ok (.sipush 165, 3) by decide +kernel) rfl rfl rfl ?_
    refine e_L (L' := [some (aR 188), some (aI v1)]) (st' := [aR 188, aI 165, aR 195, aI (168 + v1), aR 190]) (show decode (mC 213) 49 = .ok (.aload_n 0, 1) by decide +kernel) rfl (by show (if 188 = 0 then none else some (_, _)) = _; rw [if_neg (by decide)]) ?_
    refine e_getIx (show decode (mC 213) 50 = .ok (.getfield 238, 3) by decide +kernel) (show pl 12 238 = some (0, 12, 23, 0) by decide +kernel) (by decide) (sh_ok hG (by decide +kernel)) ex2 ?_
    refine e_P (st' := [aI (165 * x2), aR 195, aI (168 + v1), aR 190]) (show decode (mC 213) 53 = .ok (.imul, 1) by decide +kernel) rfl rfl rfl ?_
    refine e_L (L' := [some (aR 188), some (aI v1)]) (st' := [aI v1, aI (165 * x2), aR 195, aI (168 + v1), aR 190]) (show decode (mC 213) 54 = .ok (.iload_n 1, 1) by decide +kernel) rfl rfl ?_
    refine e_P (st' := [aI ((165 * x2) + v1), aR 195, aI (168 + v1), aR 190]) (show decode (mC 213) 55 = .ok (.iadd, 1) by decide +kernel) rfl rfl rfl ?_
    refine e_ialdx (n := 1320) (show decode (mC 213) 56 = .ok (.iaload, 1) by decide +kernel) (sh_ok hG (by decide +kernel)) (sh_ln hG (by decide +kernel)) (by decide) (s4 p1) (s5 p1) ex3 ?_
    refine e_iast (n := 514) (show decode (mC 213) 57 = .ok (.iastore, 1) by decide +kernel) (sh_ok hG (by decide +kernel)) (sh_ln hG (by decide +kernel)) (by decide) (s7 p1) (s8 p1) ?_
    refine e_L (L' := [some (aR 188), some (aI (v1 + 1))]) (st' := []) (show decode (mC 213) 58 = .ok (.iinc 1 1, 3) by decide +kernel) rfl rfl ?_
    refine e_go (t := 26) (show decode (mC 213) 61 = .ok (.goto (-35), 3) by decide +kernel) (by decide) ?_
    exact (k9 p1)
/-- SoulOfficeModel.tries()V, from 0 -/
theorem b214_0 (hG : Shp G)
    (k0 : T d 214 2 [some (aR 188), some (aI 0)] [] (G, c) Q) :
    T d 214 0 [some (aR 188), none] [] (G, c) Q := by
  refine e_P (st' := [aI 0]) (show decode (mC 214) 0 = .ok (.iconst 0, 1) by decide +kernel) rfl rfl rfl ?_
  refine e_L (L' := [some (aR 188), some (aI 0)]) (st' := []) (show decode (mC 214) 1 = .ok (.istore_n 1, 1) by decide +kernel) rfl rfl ?_
  exact k0
/-- SoulOfficeModel.tries()V, from 2 -/
theorem b214_2 (hG : Shp G) {v1 x1 : Int}
    (s0 : -2147483648 ≤ v1 ∧ v1 < 2147483648)
    (z1 : (165 ≤ v1) → Q (.inl none) (G, c))
    (s2 : (v1 < 165) → 0 ≤ (168 + v1))
    (s3 : (v1 < 165) → (168 + v1) < 514)
    (ex1 : c 190 (168 + v1) = x1)
    (s5 : (v1 < 165) → 0 ≤ v1)
    (s6 : (v1 < 165) → v1 < 165)
    (k7 : (v1 < 165) → T d 214 2 [some (aR 188), some (aI (v1 + 1))] [] (G, (q_up c 196 v1 x1)) Q) :
    T d 214 2 [some (aR 188), some (aI v1)] [] (G, c) Q := by
  refine e_L (L' := [some (aR 188), some (aI v1)]) (st' := [aI v1]) (show decode (mC 214) 2 = .ok (.iload_n 1, 1) by decide +kernel) rfl rfl ?_
  refine e_P (st' := [aI 165, aI v1]) (show decode (mC 214) 3 = .ok (.sipush 165, 3) by decide +kernel) rfl rfl rfl ?_
  refine e_ge2 (t := 31) (show decode (mC 214) 6 = .ok (.if_icmp .ge 25, 3) by decide +kernel) (by decide) s0 (by decide) (fun p1 => ?_) (fun p1 => ?_)
  · exact e_vret (show decode (mC 214) 31 = .ok (.return_, 1) by decide +kernel) rfl (z1 p1)
  · refine e_L (L' := [some (aR 188), some (aI v1)]) (st' := [aR 188]) (show decode (mC 214) 9 = .ok (.aload_n 0, 1) by decide +kernel) rfl (by show (if 188 = 0 then none else some (_, _)) = _; rw [if_neg (by decide)]) ?_
    refine e_getR (w := 196) (show decode (mC 214) 10 = .ok (.getfield 53, 3) by decide +kernel) (show pl 12 53 = some (0, 12, 22, 0) by decide +kernel) (by decide) (sh_ok hG (by decide +kernel)) (sh_rf hG (by decide +kernel)) ?_
    refine e_L (L' := [some (aR 188), some (aI v1)]) (st' := [aI v1, aR 196]) (show decode (mC 214) 13 = .ok (.iload_n 1, 1) by decide +kernel) rfl rfl ?_
    refine e_L (L' := [some (aR 188), some (aI v1)]) (st' := [aR 188, aI v1, aR 196]) (show decode (mC 214) 14 = .ok (.aload_n 0, 1) by decide +kernel) rfl (by show (if 188 = 0 then none else some (_, _)) = _; rw [if_neg (by decide)]) ?_
    refine e_getR (w := 190) (show decode (mC 214) 15 = .ok (.getfield 33, 3) by decide +kernel) (show pl 12 33 = some (0, 12, 6, 0) by decide +kernel) (by decide) (sh_ok hG (by decide +kernel)) (sh_rf hG (by decide +kernel)) ?_
    refine e_P (st' := [aI 168, aR 190, aI v1, aR 196]) (show decode (mC 214) 18 = .ok (.sipush 168, 3) by decide +kernel) rfl rfl rfl ?_
    refine e_L (L' := [some (aR 188), some (aI v1)]) (st' := [aI v1, aI 168, aR 190, aI v1, aR 196]) (show decode (mC 214) 21 = .ok (.iload_n 1, 1) by decide +kernel) rfl rfl ?_
    refine e_P (st' := [aI (168 + v1), aR 190, aI v1, aR 196]) (show decode (mC 214) 22 = .ok (.iadd, 1) by decide +kernel) rfl rfl rfl ?_
    refine e_ialdx (n := 514) (show decode (mC 214) 23 = .ok (.iaload, 1) by decide +kernel) (sh_ok hG (by decide +kernel)) (sh_ln hG (by decide +kernel)) (by decide) (s2 p1) (s3 p1) ex1 ?_
    refine e_iast (n := 165) (show decode (mC 214) 24 = .ok (.iastore, 1) by decide +kernel) (sh_ok hG (by decide +kernel)) (sh_ln hG (by decide +kernel)) (by decide) (s5 p1) (s6 p1) ?_
    refine e_L (L' := [some (aR 188), some (aI (v1 + 1))]) (st' := []) (show decode (mC 214) 25 = .ok (.iinc 1 1, 3) by decide +kernel) rfl rfl ?_
    refine e_go (t := 2) (show decode (mC 214) 28 = .ok (.goto (-26), 3) by decide +kernel) (by decide) ?_
    exact (k7 p1)
end QB27
