section QB7
variable {d : Nat} {G : GG} {c : CC} {Q : OO → HH → Prop}
/-- SoulOffice$OfficeText.readOnly()Z, from 0 -/
theorem b64_0 (hG : Shp G)
    (m0 : TM d 98 [aR 2] (G, c) (fun r h' => T (d + 1) 64 7 [some (aR 119), none, none, none] (r.toList ++ []) h' Q)) :
    T (d + 1) 64 0 [some (aR 119), none, none, none] [] (G, c) Q := by
  refine e_L (L' := [some (aR 119), none, none, none]) (st' := [aR 119]) (show decode (mC 64) 0 = .ok (.aload_n 0, 1) by decide +kernel) rfl (by show (if 119 = 0 then none else some (_, _)) = _; rw [if_neg (by decide)]) ?_
  refine e_getR (w := 2) (show decode (mC 64) 1 = .ok (.getfield 9, 3) by decide +kernel) (show pl 7 9 = some (0, 7, 0, 0) by decide +kernel) (by decide) (sh_ok hG (by decide +kernel)) (sh_rf hG (by decide +kernel)) ?_
  exact e_V (as := [aR 2]) (rest := []) (show decode (mC 64) 4 = .ok (.invokevirtual 79, 3) by decide +kernel) (by decide +kernel) (show (decide ((1 : Nat) = mA 98) && decide (98 < q_law)) = true by decide +kernel) rfl (show (0 : Nat) ≤ 8 by decide) (show (1 : Nat) ≤ mL 98 by decide +kernel) rfl (sh_ok hG (by decide +kernel)) m0
/-- SoulOffice$OfficeText.readOnly()Z, from 7 -/
theorem b64_7 (hG : Shp G) {x1 : Int}
    (ex1 : c 18 1 = x1)
    (m1 : TM d 106 [aR 2, aR 20, aI x1] (G, c) (fun r h' => T (d + 1) 64 28 [some (aR 119), none, none, none] (r.toList ++ []) h' Q)) :
    T (d + 1) 64 7 [some (aR 119), none, none, none] [] (G, c) Q := by
  refine e_L (L' := [some (aR 119), none, none, none]) (st' := [aR 119]) (show decode (mC 64) 7 = .ok (.aload_n 0, 1) by decide +kernel) rfl (by show (if 119 = 0 then none else some (_, _)) = _; rw [if_neg (by decide)]) ?_
  refine e_getR (w := 2) (show decode (mC 64) 8 = .ok (.getfield 9, 3) by decide +kernel) (show pl 7 9 = some (0, 7, 0, 0) by decide +kernel) (by decide) (sh_ok hG (by decide +kernel)) (sh_rf hG (by decide +kernel)) ?_
  refine e_L (L' := [some (aR 119), none, none, none]) (st' := [aR 119, aR 2]) (show decode (mC 64) 11 = .ok (.aload_n 0, 1) by decide +kernel) rfl (by show (if 119 = 0 then none else some (_, _)) = _; rw [if_neg (by decide)]) ?_
  refine e_getR (w := 18) (show decode (mC 64) 12 = .ok (.getfield 15, 3) by decide +kernel) (show pl 7 15 = some (0, 7, 1, 0) by decide +kernel) (by decide) (sh_ok hG (by decide +kernel)) (sh_rf hG (by decide +kernel)) ?_
  refine e_getR (w := 20) (show decode (mC 64) 15 = .ok (.getfield 122, 3) by decide +kernel) (show pl 7 122 = some (0, 8, 4, 0) by decide +kernel) (by decide) (sh_ok hG (by decide +kernel)) (sh_rf hG (by decide +kernel)) ?_
  refine e_L (L' := [some (aR 119), none, none, none]) (st' := [aR 119, aR 20, aR 2]) (show decode (mC 64) 18 = .ok (.aload_n 0, 1) by decide +kernel) rfl (by show (if 119 = 0 then none else some (_, _)) = _; rw [if_neg (by decide)]) ?_
  refine e_getR (w := 18) (show decode (mC 64) 19 = .ok (.getfield 15, 3) by decide +kernel) (show pl 7 15 = some (0, 7, 1, 0) by decide +kernel) (by decide) (sh_ok hG (by decide +kernel)) (sh_rf hG (by decide +kernel)) ?_
  refine e_getIx (show decode (mC 64) 22 = .ok (.getfield 115, 3) by decide +kernel) (show pl 7 115 = some (0, 8, 1, 0) by decide +kernel) (by decide) (sh_ok hG (by decide +kernel)) ex1 ?_
  exact e_V (as := [aR 2, aR 20, aI x1]) (rest := []) (show decode (mC 64) 25 = .ok (.invokevirtual 105, 3) by decide +kernel) (by decide +kernel) (show (decide ((3 : Nat) = mA 106) && decide (106 < q_law)) = true by decide +kernel) rfl (show (0 : Nat) ≤ 8 by decide) (show (3 : Nat) ≤ mL 106 by decide +kernel) rfl (sh_ok hG (by decide +kernel)) m1
/-- SoulOffice$OfficeText.readOnly()Z, from 28 -/
theorem b64_28 (hG : Shp G) {u0 x1 : Int} (hQ : ∀ o o' h', q_eqo o o' → Q o h' → Q o' h')
    (s0 : -2147483648 ≤ u0 ∧ u0 < 2147483648)
    (s1 : (¬ u0 = (-1)) → 0 ≤ u0)
    (s2 : (¬ u0 = (-1)) → u0 < 8)
    (ex1 : c 24 u0 = x1)
    (s4 : (¬ u0 = (-1)) → -2147483648 ≤ x1 ∧ x1 < 2147483648)
    (m5 : (¬ u0 = (-1)) → (x1 = 0) → TM d 98 [aR 2] (G, c) (fun r h' => T (d + 1) 64 64 [some (aR 119), some (aI u0), none, none] (r.toList ++ []) h' Q))
    (m6 : (¬ u0 = (-1)) → (¬ x1 = 0) → TM d 99 [aR 2, aI 3] (G, c) (fun r h' => T (d + 1) 64 56 [none, none, none, none] (r.toList ++ []) h' Q))
    (z7 : (u0 = (-1)) → Q (.inl (some (aI 0))) (G, c)) :
    T (d + 1) 64 28 [some (aR 119), none, none, none] [aI u0] (G, c) Q := by
  refine e_L (L' := [some (aR 119), some (aI u0), none, none]) (st' := []) (show decode (mC 64) 28 = .ok (.istore_n 1, 1) by decide +kernel) rfl rfl ?_
  refine e_L (L' := [some (aR 119), some (aI u0), none, none]) (st' := [aI u0]) (show decode (mC 64) 29 = .ok (.iload_n 1, 1) by decide +kernel) rfl rfl ?_
  refine e_P (st' := [aI (-1), aI u0]) (show decode (mC 64) 30 = .ok (.iconst (-1), 1) by decide +kernel) rfl rfl rfl ?_
  refine e_ne2 (t := 36) (show decode (mC 64) 31 = .ok (.if_icmp .ne 5, 3) by decide +kernel) (by decide) s0 (by decide) (fun p1 => ?_) (fun p1 => ?_)
  · refine e_L (L' := [some (aR 119), some (aI u0), none, none]) (st' := [aR 119]) (show decode (mC 64) 36 = .ok (.aload_n 0, 1) by decide +kernel) rfl (by show (if 119 = 0 then none else some (_, _)) = _; rw [if_neg (by decide)]) ?_
    refine e_getR (w := 18) (show decode (mC 64) 37 = .ok (.getfield 15, 3) by decide +kernel) (show pl 7 15 = some (0, 7, 1, 0) by decide +kernel) (by decide) (sh_ok hG (by decide +kernel)) (sh_rf hG (by decide +kernel)) ?_
    refine e_getR (w := 24) (show decode (mC 64) 40 = .ok (.getfield 125, 3) by decide +kernel) (show pl 7 125 = some (0, 8, 8, 0) by decide +kernel) (by decide) (sh_ok hG (by decide +kernel)) (sh_rf hG (by decide +kernel)) ?_
    refine e_L (L' := [some (aR 119), some (aI u0), none, none]) (st' := [aI u0, aR 24]) (show decode (mC 64) 43 = .ok (.iload_n 1, 1) by decide +kernel) rfl rfl ?_
    refine e_ialdx (n := 8) (show decode (mC 64) 44 = .ok (.iaload, 1) by decide +kernel) (sh_ok hG (by decide +kernel)) (sh_ln hG (by decide +kernel)) (by decide) (s1 p1) (s2 p1) ex1 ?_
    refine e_eq1 (t := 57) (show decode (mC 64) 45 = .ok (.ifCond .eq 12, 3) by decide +kernel) (by decide) (s4 p1) (fun p2 => ?_) (fun p2 => ?_)
    · refine e_L (L' := [some (aR 119), some (aI u0), none, none]) (st' := [aR 119]) (show decode (mC 64) 57 = .ok (.aload_n 0, 1) by decide +kernel) rfl (by show (if 119 = 0 then none else some (_, _)) = _; rw [if_neg (by decide)]) ?_
      refine e_getR (w := 2) (show decode (mC 64) 58 = .ok (.getfield 9, 3) by decide +kernel) (show pl 7 9 = some (0, 7, 0, 0) by decide +kernel) (by decide) (sh_ok hG (by decide +kernel)) (sh_rf hG (by decide +kernel)) ?_
      exact e_V (as := [aR 2]) (rest := []) (show decode (mC 64) 61 = .ok (.invokevirtual 79, 3) by decide +kernel) (by decide +kernel) (show (decide ((1 : Nat) = mA 98) && decide (98 < q_law)) = true by decide +kernel) rfl (show (0 : Nat) ≤ 8 by decide) (show (1 : Nat) ≤ mL 98 by decide +kernel) rfl (sh_ok hG (by decide +kernel)) (m5 p1 p2)
    · refine e_L (L' := [some (aR 119), some (aI u0), none, none]) (st' := [aR 119]) (show decode (mC 64) 48 = .ok (.aload_n 0, 1) by decide +kernel) rfl (by show (if 119 = 0 then none else some (_, _)) = _; rw [if_neg (by decide)]) ?_
      refine e_getR (w := 2) (show decode (mC 64) 49 = .ok (.getfield 9, 3) by decide +kernel) (show pl 7 9 = some (0, 7, 0, 0) by decide +kernel) (by decide) (sh_ok hG (by decide +kernel)) (sh_rf hG (by decide +kernel)) ?_
      refine e_P (st' := [aI 3, aR 2]) (show decode (mC 64) 52 = .ok (.iconst 3, 1) by decide +kernel) rfl rfl rfl ?_
      exact e_V (as := [aR 2, aI 3]) (rest := []) (show decode (mC 64) 53 = .ok (.invokevirtual 48, 3) by decide +kernel) (by decide +kernel) (show (decide ((2 : Nat) = mA 99) && decide (99 < q_law)) = true by decide +kernel) rfl (show (0 : Nat) ≤ 8 by decide) (show (2 : Nat) ≤ mL 99 by decide +kernel) rfl (sh_ok hG (by decide +kernel)) (tm_le hQ (leN (leN (leS (leS leE)))) (m6 p1 p2))
  · refine e_P (st' := [aI 0]) (show decode (mC 64) 34 = .ok (.iconst 0, 1) by decide +kernel) rfl rfl rfl ?_
    exact e_zret (show decode (mC 64) 35 = .ok (.ireturn, 1) by decide +kernel) rfl (by decide) (z7 p1)
/-- SoulOffice$OfficeText.readOnly()Z, from 56 -/
theorem b64_56 (hG : Shp G) {u0 : Int}
    (s0 : u0 = 0 ∨ u0 = 1)
    (z1 : Q (.inl (some (aI u0))) (G, c)) :
    T (d + 1) 64 56 [none, none, none, none] [aI u0] (G, c) Q := by
  exact e_zret (show decode (mC 64) 56 = .ok (.ireturn, 1) by decide +kernel) rfl s0 z1
/-- SoulOffice$OfficeText.readOnly()Z, from 64 -/
theorem b64_64 (hG : Shp G) {v1 : Int}
    (k0 : T (d + 1) 64 66 [some (aR 119), some (aI v1), some (aI 0), none] [] (G, c) Q) :
    T (d + 1) 64 64 [some (aR 119), some (aI v1), none, none] [] (G, c) Q := by
  refine e_P (st' := [aI 0]) (show decode (mC 64) 64 = .ok (.iconst 0, 1) by decide +kernel) rfl rfl rfl ?_
  refine e_L (L' := [some (aR 119), some (aI v1), some (aI 0), none]) (st' := []) (show decode (mC 64) 65 = .ok (.istore_n 2, 1) by decide +kernel) rfl rfl ?_
  exact k0
/-- SoulOffice$OfficeText.readOnly()Z, from 66 -/
theorem b64_66 (hG : Shp G) {v1 v2 x1 : Int} (hQ : ∀ o o' h', q_eqo o o' → Q o h' → Q o' h')
    (s0 : -2147483648 ≤ v2 ∧ v2 < 2147483648)
    (m1 : (6 < v2) → TM d 99 [aR 2, aI 1] (G, c) (fun r h' => T (d + 1) 64 172 [none, none, none, none] (r.toList ++ []) h' Q))
    (ex1 : c 18 0 = x1)
    (m3 : (v2 ≤ 6) → TM d 106 [aR 2, aR 19, aI x1] (G, c) (fun r h' => T (d + 1) 64 93 [some (aR 119), some (aI v1), some (aI v2), none] (r.toList ++ []) h' Q)) :
    T (d + 1) 64 66 [some (aR 119), some (aI v1), some (aI v2), none] [] (G, c) Q := by
  refine e_L (L' := [some (aR 119), some (aI v1), some (aI v2), none]) (st' := [aI v2]) (show decode (mC 64) 66 = .ok (.iload_n 2, 1) by decide +kernel) rfl rfl ?_
  refine e_P (st' := [aI 6, aI v2]) (show decode (mC 64) 67 = .ok (.bipush 6, 2) by decide +kernel) rfl rfl rfl ?_
  refine e_gt2 (t := 164) (show decode (mC 64) 69 = .ok (.if_icmp .gt 95, 3) by decide +kernel) (by decide) s0 (by decide) (fun p1 => ?_) (fun p1 => ?_)
  · refine e_L (L' := [some (aR 119), some (aI v1), some (aI v2), none]) (st' := [aR 119]) (show decode (mC 64) 164 = .ok (.aload_n 0, 1) by decide +kernel) rfl (by show (if 119 = 0 then none else some (_, _)) = _; rw [if_neg (by decide)]) ?_
    refine e_getR (w := 2) (show decode (mC 64) 165 = .ok (.getfield 9, 3) by decide +kernel) (show pl 7 9 = some (0, 7, 0, 0) by decide +kernel) (by decide) (sh_ok hG (by decide +kernel)) (sh_rf hG (by decide +kernel)) ?_
    refine e_P (st' := [aI 1, aR 2]) (show decode (mC 64) 168 = .ok (.iconst 1, 1) by decide +kernel) rfl rfl rfl ?_
    exact e_V (as := [aR 2, aI 1]) (rest := []) (show decode (mC 64) 169 = .ok (.invokevirtual 48, 3) by decide +kernel) (by decide +kernel) (show (decide ((2 : Nat) = mA 99) && decide (99 < q_law)) = true by decide +kernel) rfl (show (0 : Nat) ≤ 8 by decide) (show (2 : Nat) ≤ mL 99 by decide +kernel) rfl (sh_ok hG (by decide +kernel)) (tm_le hQ (leN (leN (leN (leS leE)))) (m1 p1))
  · refine e_L (L' := [some (aR 119), some (aI v1), some (aI v2), none]) (st' := [aR 119]) (show decode (mC 64) 72 = .ok (.aload_n 0, 1) by decide +kernel) rfl (by show (if 119 = 0 then none else some (_, _)) = _; rw [if_neg (by decide)]) ?_
    refine e_getR (w := 2) (show decode (mC 64) 73 = .ok (.getfield 9, 3) by decide +kernel) (show pl 7 9 = some (0, 7, 0, 0) by decide +kernel) (by decide) (sh_ok hG (by decide +kernel)) (sh_rf hG (by decide +kernel)) ?_
    refine e_L (L' := [some (aR 119), some (aI v1), some (aI v2), none]) (st' := [aR 119, aR 2]) (show decode (mC 64) 76 = .ok (.aload_n 0, 1) by decide +kernel) rfl (by show (if 119 = 0 then none else some (_, _)) = _; rw [if_neg (by decide)]) ?_
    refine e_getR (w := 18) (show decode (mC 64) 77 = .ok (.getfield 15, 3) by decide +kernel) (show pl 7 15 = some (0, 7, 1, 0) by decide +kernel) (by decide) (sh_ok hG (by decide +kernel)) (sh_rf hG (by decide +kernel)) ?_
    refine e_getR (w := 19) (show decode (mC 64) 80 = .ok (.getfield 97, 3) by decide +kernel) (show pl 7 97 = some (0, 8, 3, 0) by decide +kernel) (by decide) (sh_ok hG (by decide +kernel)) (sh_rf hG (by decide +kernel)) ?_
    refine e_L (L' := [some (aR 119), some (aI v1), some (aI v2), none]) (st' := [aR 119, aR 19, aR 2]) (show decode (mC 64) 83 = .ok (.aload_n 0, 1) by decide +kernel) rfl (by show (if 119 = 0 then none else some (_, _)) = _; rw [if_neg (by decide)]) ?_
    refine e_getR (w := 18) (show decode (mC 64) 84 = .ok (.getfield 15, 3) by decide +kernel) (show pl 7 15 = some (0, 7, 1, 0) by decide +kernel) (by decide) (sh_ok hG (by decide +kernel)) (sh_rf hG (by decide +kernel)) ?_
    refine e_getIx (show decode (mC 64) 87 = .ok (.getfield 76, 3) by decide +kernel) (show pl 7 76 = some (0, 8, 0, 0) by decide +kernel) (by decide) (sh_ok hG (by decide +kernel)) ex1 ?_
    exact e_V (as := [aR 2, aR 19, aI x1]) (rest := []) (show decode (mC 64) 90 = .ok (.invokevirtual 105, 3) by decide +kernel) (by decide +kernel) (show (decide ((3 : Nat) = mA 106) && decide (106 < q_law)) = true by decide +kernel) rfl (show (0 : Nat) ≤ 8 by decide) (show (3 : Nat) ≤ mL 106 by decide +kernel) rfl (sh_ok hG (by decide +kernel)) (m3 p1)
/-- SoulOffice$OfficeText.readOnly()Z, from 93 -/
theorem b64_93 (hG : Shp G) {v1 v2 u0 : Int}
    (s0 : -2147483648 ≤ u0 ∧ u0 < 2147483648)
    (m1 : (¬ u0 = (-1)) → TM d 72 [aR 18, aI v1, aI u0] (G, c) (fun r h' => T (d + 1) 64 110 [some (aR 119), some (aI v1), some (aI v2), some (aI u0)] (r.toList ++ []) h' Q))
    (z2 : (u0 = (-1)) → Q (.inl (some (aI 0))) (G, c)) :
    T (d + 1) 64 93 [some (aR 119), some (aI v1), some (aI v2), none] [aI u0] (G, c) Q := by
  refine e_L (L' := [some (aR 119), some (aI v1), some (aI v2), some (aI u0)]) (st' := []) (show decode (mC 64) 93 = .ok (.istore_n 3, 1) by decide +kernel) rfl rfl ?_
  refine e_L (L' := [some (aR 119), some (aI v1), some (aI v2), some (aI u0)]) (st' := [aI u0]) (show decode (mC 64) 94 = .ok (.iload_n 3, 1) by decide +kernel) rfl rfl ?_
  refine e_P (st' := [aI (-1), aI u0]) (show decode (mC 64) 95 = .ok (.iconst (-1), 1) by decide +kernel) rfl rfl rfl ?_
  refine e_ne2 (t := 101) (show decode (mC 64) 96 = .ok (.if_icmp .ne 5, 3) by decide +kernel) (by decide) s0 (by decide) (fun p1 => ?_) (fun p1 => ?_)
  · refine e_L (L' := [some (aR 119), some (aI v1), some (aI v2), some (aI u0)]) (st' := [aR 119]) (show decode (mC 64) 101 = .ok (.aload_n 0, 1) by decide +kernel) rfl (by show (if 119 = 0 then none else some (_, _)) = _; rw [if_neg (by decide)]) ?_
    refine e_getR (w := 18) (show decode (mC 64) 102 = .ok (.getfield 15, 3) by decide +kernel) (show pl 7 15 = some (0, 7, 1, 0) by decide +kernel) (by decide) (sh_ok hG (by decide +kernel)) (sh_rf hG (by decide +kernel)) ?_
    refine e_L (L' := [some (aR 119), some (aI v1), some (aI v2), some (aI u0)]) (st' := [aI v1, aR 18]) (show decode (mC 64) 105 = .ok (.iload_n 1, 1) by decide +kernel) rfl rfl ?_
    refine e_L (L' := [some (aR 119), some (aI v1), some (aI v2), some (aI u0)]) (st' := [aI u0, aI v1, aR 18]) (show decode (mC 64) 106 = .ok (.iload_n 3, 1) by decide +kernel) rfl rfl ?_
    exact e_V (as := [aR 18, aI v1, aI u0]) (rest := []) (show decode (mC 64) 107 = .ok (.invokevirtual 128, 3) by decide +kernel) (by decide +kernel) (show (decide ((3 : Nat) = mA 72) && decide (72 < q_law)) = true by decide +kernel) rfl (show (0 : Nat) ≤ 8 by decide) (show (3 : Nat) ≤ mL 72 by decide +kernel) rfl (sh_ok hG (by decide +kernel)) (m1 p1)
  · refine e_P (st' := [aI 0]) (show decode (mC 64) 99 = .ok (.iconst 0, 1) by decide +kernel) rfl rfl rfl ?_
    exact e_zret (show decode (mC 64) 100 = .ok (.ireturn, 1) by decide +kernel) rfl (by decide) (z2 p1)
/-- SoulOffice$OfficeText.readOnly()Z, from 110 -/
theorem b64_110 (hG : Shp G) {v1 v2 v3 u0 x1 : Int} (hQ : ∀ o o' h', q_eqo o o' → Q o h' → Q o' h')
    (s0 : -2147483648 ≤ u0 ∧ u0 < 2147483648)
    (s1 : (u0 = 0) → 0 ≤ v1)
    (s2 : (u0 = 0) → v1 < 8)
    (ex1 : c 24 v1 = x1)
    (m4 : (u0 = 0) → TM d 98 [aR 2] (G, (q_up c 24 v1 (q_or x1 (q_shl 1 v3)))) (fun r h' => T (d + 1) 64 144 [some (aR 119), some (aI v1), some (aI v2), none] (r.toList ++ []) h' Q))
    (m5 : (¬ u0 = 0) → TM d 99 [aR 2, aI 3] (G, c) (fun r h' => T (d + 1) 64 121 [none, none, none, none] (r.toList ++ []) h' Q)) :
    T (d + 1) 64 110 [some (aR 119), some (aI v1), some (aI v2), some (aI v3)] [aI u0] (G, c) Q := by
  refine e_eq1 (t := 122) (show decode (mC 64) 110 = .ok (.ifCond .eq 12, 3) by decide +kernel) (by decide) s0 (fun p1 => ?_) (fun p1 => ?_)
  · refine e_L (L' := [some (aR 119), some (aI v1), some (aI v2), some (aI v3)]) (st' := [aR 119]) (show decode (mC 64) 122 = .ok (.aload_n 0, 1) by decide +kernel) rfl (by show (if 119 = 0 then none else some (_, _)) = _; rw [if_neg (by decide)]) ?_
    refine e_getR (w := 18) (show decode (mC 64) 123 = .ok (.getfield 15, 3) by decide +kernel) (show pl 7 15 = some (0, 7, 1, 0) by decide +kernel) (by decide) (sh_ok hG (by decide +kernel)) (sh_rf hG (by decide +kernel)) ?_
    refine e_getR (w := 24) (show decode (mC 64) 126 = .ok (.getfield 125, 3) by decide +kernel) (show pl 7 125 = some (0, 8, 8, 0) by decide +kernel) (by decide) (sh_ok hG (by decide +kernel)) (sh_rf hG (by decide +kernel)) ?_
    refine e_L (L' := [some (aR 119), some (aI v1), some (aI v2), some (aI v3)]) (st' := [aI v1, aR 24]) (show decode (mC 64) 129 = .ok (.iload_n 1, 1) by decide +kernel) rfl rfl ?_
    refine e_P (st' := [aI v1, aR 24, aI v1, aR 24]) (show decode (mC 64) 130 = .ok (.dup2, 1) by decide +kernel) rfl rfl rfl ?_
    refine e_ialdx (n := 8) (show decode (mC 64) 131 = .ok (.iaload, 1) by decide +kernel) (sh_ok hG (by decide +kernel)) (sh_ln hG (by decide +kernel)) (by decide) (s1 p1) (s2 p1) ex1 ?_
    refine e_P (st' := [aI 1, aI x1, aI v1, aR 24]) (show decode (mC 64) 132 = .ok (.iconst 1, 1) by decide +kernel) rfl rfl rfl ?_
    refine e_L (L' := [some (aR 119), some (aI v1), some (aI v2), some (aI v3)]) (st' := [aI v3, aI 1, aI x1, aI v1, aR 24]) (show decode (mC 64) 133 = .ok (.iload_n 3, 1) by decide +kernel) rfl rfl ?_
    refine e_P (st' := [aI (q_shl 1 v3), aI x1, aI v1, aR 24]) (show decode (mC 64) 134 = .ok (.ishl, 1) by decide +kernel) rfl rfl rfl ?_
    refine e_P (st' := [aI (q_or x1 (q_shl 1 v3)), aI v1, aR 24]) (show decode (mC 64) 135 = .ok (.ior, 1) by decide +kernel) rfl rfl rfl ?_
    refine e_iast (n := 8) (show decode (mC 64) 136 = .ok (.iastore, 1) by decide +kernel) (sh_ok hG (by decide +kernel)) (sh_ln hG (by decide +kernel)) (by decide) (s1 p1) (s2 p1) ?_
    refine e_L (L' := [some (aR 119), some (aI v1), some (aI v2), some (aI v3)]) (st' := [aR 119]) (show decode (mC 64) 137 = .ok (.aload_n 0, 1) by decide +kernel) rfl (by show (if 119 = 0 then none else some (_, _)) = _; rw [if_neg (by decide)]) ?_
    refine e_getR (w := 2) (show decode (mC 64) 138 = .ok (.getfield 9, 3) by decide +kernel) (show pl 7 9 = some (0, 7, 0, 0) by decide +kernel) (by decide) (sh_ok hG (by decide +kernel)) (sh_rf hG (by decide +kernel)) ?_
    exact e_V (as := [aR 2]) (rest := []) (show decode (mC 64) 141 = .ok (.invokevirtual 79, 3) by decide +kernel) (by decide +kernel) (show (decide ((1 : Nat) = mA 98) && decide (98 < q_law)) = true by decide +kernel) rfl (show (0 : Nat) ≤ 8 by decide) (show (1 : Nat) ≤ mL 98 by decide +kernel) rfl (sh_ok hG (by decide +kernel)) (tm_le hQ (leS (leS (leS (leN leE)))) (m4 p1))
  · refine e_L (L' := [some (aR 119), some (aI v1), some (aI v2), some (aI v3)]) (st' := [aR 119]) (show decode (mC 64) 113 = .ok (.aload_n 0, 1) by decide +kernel) rfl (by show (if 119 = 0 then none else some (_, _)) = _; rw [if_neg (by decide)]) ?_
    refine e_getR (w := 2) (show decode (mC 64) 114 = .ok (.getfield 9, 3) by decide +kernel) (show pl 7 9 = some (0, 7, 0, 0) by decide +kernel) (by decide) (sh_ok hG (by decide +kernel)) (sh_rf hG (by decide +kernel)) ?_
    refine e_P (st' := [aI 3, aR 2]) (show decode (mC 64) 117 = .ok (.iconst 3, 1) by decide +kernel) rfl rfl rfl ?_
    exact e_V (as := [aR 2, aI 3]) (rest := []) (show decode (mC 64) 118 = .ok (.invokevirtual 48, 3) by decide +kernel) (by decide +kernel) (show (decide ((2 : Nat) = mA 99) && decide (99 < q_law)) = true by decide +kernel) rfl (show (0 : Nat) ≤ 8 by decide) (show (2 : Nat) ≤ mL 99 by decide +kernel) rfl (sh_ok hG (by decide +kernel)) (tm_le hQ (leN (leN (leN (leN leE)))) (m5 p1))
/-- SoulOffice$OfficeText.readOnly()Z, from 121 -/
theorem b64_121 (hG : Shp G) {u0 : Int}
    (s0 : u0 = 0 ∨ u0 = 1)
    (z1 : Q (.inl (some (aI u0))) (G, c)) :
    T (d + 1) 64 121 [none, none, none, none] [aI u0] (G, c) Q := by
  exact e_zret (show decode (mC 64) 121 = .ok (.ireturn, 1) by decide +kernel) rfl s0 z1
/-- SoulOffice$OfficeText.readOnly()Z, from 144 -/
theorem b64_144 (hG : Shp G) {v1 v2 : Int}
    (m0 : TM d 102 [aR 2, aI 59] (G, c) (fun r h' => T (d + 1) 64 153 [some (aR 119), some (aI v1), some (aI v2), none] (r.toList ++ []) h' Q)) :
    T (d + 1) 64 144 [some (aR 119), some (aI v1), some (aI v2), none] [] (G, c) Q := by
  refine e_L (L' := [some (aR 119), some (aI v1), some (aI v2), none]) (st' := [aR 119]) (show decode (mC 64) 144 = .ok (.aload_n 0, 1) by decide +kernel) rfl (by show (if 119 = 0 then none else some (_, _)) = _; rw [if_neg (by decide)]) ?_
  refine e_getR (w := 2) (show decode (mC 64) 145 = .ok (.getfield 9, 3) by decide +kernel) (show pl 7 9 = some (0, 7, 0, 0) by decide +kernel) (by decide) (sh_ok hG (by decide +kernel)) (sh_rf hG (by decide +kernel)) ?_
  refine e_P (st' := [aI 59, aR 2]) (show decode (mC 64) 148 = .ok (.bipush 59, 2) by decide +kernel) rfl rfl rfl ?_
  exact e_V (as := [aR 2, aI 59]) (rest := []) (show decode (mC 64) 150 = .ok (.invokevirtual 132, 3) by decide +kernel) (by decide +kernel) (show (decide ((2 : Nat) = mA 102) && decide (102 < q_law)) = true by decide +kernel) rfl (show (0 : Nat) ≤ 8 by decide) (show (2 : Nat) ≤ mL 102 by decide +kernel) rfl (sh_ok hG (by decide +kernel)) m0
/-- SoulOffice$OfficeText.readOnly()Z, from 153 -/
theorem b64_153 (hG : Shp G) {v1 v2 u0 : Int}
    (s0 : -2147483648 ≤ u0 ∧ u0 < 2147483648)
    (k1 : (u0 = 0) → T (d + 1) 64 66 [some (aR 119), some (aI v1), some (aI (v2 + 1)), none] [] (G, c) Q)
    (z2 : (¬ u0 = 0) → Q (.inl (some (aI 1))) (G, c)) :
    T (d + 1) 64 153 [some (aR 119), some (aI v1), some (aI v2), none] [aI u0] (G, c) Q := by
  refine e_eq1 (t := 158) (show decode (mC 64) 153 = .ok (.ifCond .eq 5, 3) by decide +kernel) (by decide) s0 (fun p1 => ?_) (fun p1 => ?_)
  · refine e_L (L' := [some (aR 119), some (aI v1), some (aI (v2 + 1)), none]) (st' := []) (show decode (mC 64) 158 = .ok (.iinc 2 1, 3) by decide +kernel) rfl rfl ?_
    refine e_go (t := 66) (show decode (mC 64) 161 = .ok (.goto (-95), 3) by decide +kernel) (by decide) ?_
    exact (k1 p1)
  · refine e_P (st' := [aI 1]) (show decode (mC 64) 156 = .ok (.iconst 1, 1) by decide +kernel) rfl rfl rfl ?_
    exact e_zret (show decode (mC 64) 157 = .ok (.ireturn, 1) by decide +kernel) rfl (by decide) (z2 p1)
/-- SoulOffice$OfficeText.readOnly()Z, from 172 -/
theorem b64_172 (hG : Shp G) {u0 : Int}
    (s0 : u0 = 0 ∨ u0 = 1)
    (z1 : Q (.inl (some (aI u0))) (G, c)) :
    T (d + 1) 64 172 [none, none, none, none] [aI u0] (G, c) Q := by
  exact e_zret (show decode (mC 64) 172 = .ok (.ireturn, 1) by decide +kernel) rfl s0 z1
/-- SoulOffice$OfficeText.readWish()Z, from 0 -/
theorem b65_0 (hG : Shp G)
    (m0 : TM d 98 [aR 2] (G, c) (fun r h' => T (d + 1) 65 7 [some (aR 119), none, none] (r.toList ++ []) h' Q)) :
    T (d + 1) 65 0 [some (aR 119), none, none] [] (G, c) Q := by
  refine e_L (L' := [some (aR 119), none, none]) (st' := [aR 119]) (show decode (mC 65) 0 = .ok (.aload_n 0, 1) by decide +kernel) rfl (by show (if 119 = 0 then none else some (_, _)) = _; rw [if_neg (by decide)]) ?_
  refine e_getR (w := 2) (show decode (mC 65) 1 = .ok (.getfield 9, 3) by decide +kernel) (show pl 7 9 = some (0, 7, 0, 0) by decide +kernel) (by decide) (sh_ok hG (by decide +kernel)) (sh_rf hG (by decide +kernel)) ?_
  exact e_V (as := [aR 2]) (rest := []) (show decode (mC 65) 4 = .ok (.invokevirtual 79, 3) by decide +kernel) (by decide +kernel) (show (decide ((1 : Nat) = mA 98) && decide (98 < q_law)) = true by decide +kernel) rfl (show (0 : Nat) ≤ 8 by decide) (show (1 : Nat) ≤ mL 98 by decide +kernel) rfl (sh_ok hG (by decide +kernel)) m0
/-- SoulOffice$OfficeText.readWish()Z, from 7 -/
theorem b65_7 (hG : Shp G) {x1 : Int}
    (ex1 : c 18 1 = x1)
    (m1 : TM d 106 [aR 2, aR 20, aI x1] (G, c) (fun r h' => T (d + 1) 65 28 [some (aR 119), none, none] (r.toList ++ []) h' Q)) :
    T (d + 1) 65 7 [some (aR 119), none, none] [] (G, c) Q := by
  refine e_L (L' := [some (aR 119), none, none]) (st' := [aR 119]) (show decode (mC 65) 7 = .ok (.aload_n 0, 1) by decide +kernel) rfl (by show (if 119 = 0 then none else some (_, _)) = _; rw [if_neg (by decide)]) ?_
  refine e_getR (w := 2) (show decode (mC 65) 8 = .ok (.getfield 9, 3) by decide +kernel) (show pl 7 9 = some (0, 7, 0, 0) by decide +kernel) (by decide) (sh_ok hG (by decide +kernel)) (sh_rf hG (by decide +kernel)) ?_
  refine e_L (L' := [some (aR 119), none, none]) (st' := [aR 119, aR 2]) (show decode (mC 65) 11 = .ok (.aload_n 0, 1) by decide +kernel) rfl (by show (if 119 = 0 then none else some (_, _)) = _; rw [if_neg (by decide)]) ?_
  refine e_getR (w := 18) (show decode (mC 65) 12 = .ok (.getfield 15, 3) by decide +kernel) (show pl 7 15 = some (0, 7, 1, 0) by decide +kernel) (by decide) (sh_ok hG (by decide +kernel)) (sh_rf hG (by decide +kernel)) ?_
  refine e_getR (w := 20) (show decode (mC 65) 15 = .ok (.getfield 122, 3) by decide +kernel) (show pl 7 122 = some (0, 8, 4, 0) by decide +kernel) (by decide) (sh_ok hG (by decide +kernel)) (sh_rf hG (by decide +kernel)) ?_
  refine e_L (L' := [some (aR 119), none, none]) (st' := [aR 119, aR 20, aR 2]) (show decode (mC 65) 18 = .ok (.aload_n 0, 1) by decide +kernel) rfl (by show (if 119 = 0 then none else some (_, _)) = _; rw [if_neg (by decide)]) ?_
  refine e_getR (w := 18) (show decode (mC 65) 19 = .ok (.getfield 15, 3) by decide +kernel) (show pl 7 15 = some (0, 7, 1, 0) by decide +kernel) (by decide) (sh_ok hG (by decide +kernel)) (sh_rf hG (by decide +kernel)) ?_
  refine e_getIx (show decode (mC 65) 22 = .ok (.getfield 115, 3) by decide +kernel) (show pl 7 115 = some (0, 8, 1, 0) by decide +kernel) (by decide) (sh_ok hG (by decide +kernel)) ex1 ?_
  exact e_V (as := [aR 2, aR 20, aI x1]) (rest := []) (show decode (mC 65) 25 = .ok (.invokevirtual 105, 3) by decide +kernel) (by decide +kernel) (show (decide ((3 : Nat) = mA 106) && decide (106 < q_law)) = true by decide +kernel) rfl (show (0 : Nat) ≤ 8 by decide) (show (3 : Nat) ≤ mL 106 by decide +kernel) rfl (sh_ok hG (by decide +kernel)) m1
/-- SoulOffice$OfficeText.readWish()Z, from 28 -/
theorem b65_28 (hG : Shp G) {u0 x1 : Int} (hQ : ∀ o o' h', q_eqo o o' → Q o h' → Q o' h')
    (s0 : -2147483648 ≤ u0 ∧ u0 < 2147483648)
    (s1 : (¬ u0 = (-1)) → 0 ≤ u0)
    (s2 : (¬ u0 = (-1)) → u0 < 8)
    (ex1 : c 25 u0 = x1)
    (s4 : (¬ u0 = (-1)) → -2147483648 ≤ x1 ∧ x1 < 2147483648)
    (m5 : (¬ u0 = (-1)) → (x1 = (-1)) → TM d 98 [aR 2] (G, c) (fun r h' => T (d + 1) 65 65 [some (aR 119), some (aI u0), none] (r.toList ++ []) h' Q))
    (m6 : (¬ u0 = (-1)) → (¬ x1 = (-1)) → TM d 99 [aR 2, aI 3] (G, c) (fun r h' => T (d + 1) 65 57 [none, none, none] (r.toList ++ []) h' Q))
    (z7 : (u0 = (-1)) → Q (.inl (some (aI 0))) (G, c)) :
    T (d + 1) 65 28 [some (aR 119), none, none] [aI u0] (G, c) Q := by
  refine e_L (L' := [some (aR 119), some (aI u0), none]) (st' := []) (show decode (mC 65) 28 = .ok (.istore_n 1, 1) by decide +kernel) rfl rfl ?_
  refine e_L (L' := [some (aR 119), some (aI u0), none]) (st' := [aI u0]) (show decode (mC 65) 29 = .ok (.iload_n 1, 1) by decide +kernel) rfl rfl ?_
  refine e_P (st' := [aI (-1), aI u0]) (show decode (mC 65) 30 = .ok (.iconst (-1), 1) by decide +kernel) rfl rfl rfl ?_
  refine e_ne2 (t := 36) (show decode (mC 65) 31 = .ok (.if_icmp .ne 5, 3) by decide +kernel) (by decide) s0 (by decide) (fun p1 => ?_) (fun p1 => ?_)
  · refine e_L (L' := [some (aR 119), some (aI u0), none]) (st' := [aR 119]) (show decode (mC 65) 36 = .ok (.aload_n 0, 1) by decide +kernel) rfl (by show (if 119 = 0 then none else some (_, _)) = _; rw [if_neg (by decide)]) ?_
    refine e_getR (w := 18) (show decode (mC 65) 37 = .ok (.getfield 15, 3) by decide +kernel) (show pl 7 15 = some (0, 7, 1, 0) by decide +kernel) (by decide) (sh_ok hG (by decide +kernel)) (sh_rf hG (by decide +kernel)) ?_
    refine e_getR (w := 25) (show decode (mC 65) 40 = .ok (.getfield 135, 3) by decide +kernel) (show pl 7 135 = some (0, 8, 9, 0) by decide +kernel) (by decide) (sh_ok hG (by decide +kernel)) (sh_rf hG (by decide +kernel)) ?_
    refine e_L (L' := [some (aR 119), some (aI u0), none]) (st' := [aI u0, aR 25]) (show decode (mC 65) 43 = .ok (.iload_n 1, 1) by decide +kernel) rfl rfl ?_
    refine e_ialdx (n := 8) (show decode (mC 65) 44 = .ok (.iaload, 1) by decide +kernel) (sh_ok hG (by decide +kernel)) (sh_ln hG (by decide +kernel)) (by decide) (s1 p1) (s2 p1) ex1 ?_
    refine e_P (st' := [aI (-1), aI x1]) (show decode (mC 65) 45 = .ok (.iconst (-1), 1) by decide +kernel) rfl rfl rfl ?_
    refine e_eq2 (t := 58) (show decode (mC 65) 46 = .ok (.if_icmp .eq 12, 3) by decide +kernel) (by decide) (s4 p1) (by decide) (fun p2 => ?_) (fun p2 => ?_)
    · refine e_L (L' := [some (aR 119), some (aI u0), none]) (st' := [aR 119]) (show decode (mC 65) 58 = .ok (.aload_n 0, 1) by decide +kernel) rfl (by show (if 119 = 0 then none else some (_, _)) = _; rw [if_neg (by decide)]) ?_
      refine e_getR (w := 2) (show decode (mC 65) 59 = .ok (.getfield 9, 3) by decide +kernel) (show pl 7 9 = some (0, 7, 0, 0) by decide +kernel) (by decide) (sh_ok hG (by decide +kernel)) (sh_rf hG (by decide +kernel)) ?_
      exact e_V (as := [aR 2]) (rest := []) (show decode (mC 65) 62 = .ok (.invokevirtual 79, 3) by decide +kernel) (by decide +kernel) (show (decide ((1 : Nat) = mA 98) && decide (98 < q_law)) = true by decide +kernel) rfl (show (0 : Nat) ≤ 8 by decide) (show (1 : Nat) ≤ mL 98 by decide +kernel) rfl (sh_ok hG (by decide +kernel)) (m5 p1 p2)
    · refine e_L (L' := [some (aR 119), some (aI u0), none]) (st' := [aR 119]) (show decode (mC 65) 49 = .ok (.aload_n 0, 1) by decide +kernel) rfl (by show (if 119 = 0 then none else some (_, _)) = _; rw [if_neg (by decide)]) ?_
      refine e_getR (w := 2) (show decode (mC 65) 50 = .ok (.getfield 9, 3) by decide +kernel) (show pl 7 9 = some (0, 7, 0, 0) by decide +kernel) (by decide) (sh_ok hG (by decide +kernel)) (sh_rf hG (by decide +kernel)) ?_
      refine e_P (st' := [aI 3, aR 2]) (show decode (mC 65) 53 = .ok (.iconst 3, 1) by decide +kernel) rfl rfl rfl ?_
      exact e_V (as := [aR 2, aI 3]) (rest := []) (show decode (mC 65) 54 = .ok (.invokevirtual 48, 3) by decide +kernel) (by decide +kernel) (show (decide ((2 : Nat) = mA 99) && decide (99 < q_law)) = true by decide +kernel) rfl (show (0 : Nat) ≤ 8 by decide) (show (2 : Nat) ≤ mL 99 by decide +kernel) rfl (sh_ok hG (by decide +kernel)) (tm_le hQ (leN (leN (leS leE))) (m6 p1 p2))
  · refine e_P (st' := [aI 0]) (show decode (mC 65) 34 = .ok (.iconst 0, 1) by decide +kernel) rfl rfl rfl ?_
    exact e_zret (show decode (mC 65) 35 = .ok (.ireturn, 1) by decide +kernel) rfl (by decide) (z7 p1)
/-- SoulOffice$OfficeText.readWish()Z, from 57 -/
theorem b65_57 (hG : Shp G) {u0 : Int}
    (s0 : u0 = 0 ∨ u0 = 1)
    (z1 : Q (.inl (some (aI u0))) (G, c)) :
    T (d + 1) 65 57 [none, none, none] [aI u0] (G, c) Q := by
  exact e_zret (show decode (mC 65) 57 = .ok (.ireturn, 1) by decide +kernel) rfl s0 z1
/-- SoulOffice$OfficeText.readWish()Z, from 65 -/
theorem b65_65 (hG : Shp G) {v1 x1 : Int}
    (ex1 : c 18 0 = x1)
    (m1 : TM d 107 [aR 2, aR 19, aI x1] (G, c) (fun r h' => T (d + 1) 65 86 [some (aR 119), some (aI v1), none] (r.toList ++ []) h' Q)) :
    T (d + 1) 65 65 [some (aR 119), some (aI v1), none] [] (G, c) Q := by
  refine e_L (L' := [some (aR 119), some (aI v1), none]) (st' := [aR 119]) (show decode (mC 65) 65 = .ok (.aload_n 0, 1) by decide +kernel) rfl (by show (if 119 = 0 then none else some (_, _)) = _; rw [if_neg (by decide)]) ?_
  refine e_getR (w := 2) (show decode (mC 65) 66 = .ok (.getfield 9, 3) by decide +kernel) (show pl 7 9 = some (0, 7, 0, 0) by decide +kernel) (by decide) (sh_ok hG (by decide +kernel)) (sh_rf hG (by decide +kernel)) ?_
  refine e_L (L' := [some (aR 119), some (aI v1), none]) (st' := [aR 119, aR 2]) (show decode (mC 65) 69 = .ok (.aload_n 0, 1) by decide +kernel) rfl (by show (if 119 = 0 then none else some (_, _)) = _; rw [if_neg (by decide)]) ?_
  refine e_getR (w := 18) (show decode (mC 65) 70 = .ok (.getfield 15, 3) by decide +kernel) (show pl 7 15 = some (0, 7, 1, 0) by decide +kernel) (by decide) (sh_ok hG (by decide +kernel)) (sh_rf hG (by decide +kernel)) ?_
  refine e_getR (w := 19) (show decode (mC 65) 73 = .ok (.getfield 97, 3) by decide +kernel) (show pl 7 97 = some (0, 8, 3, 0) by decide +kernel) (by decide) (sh_ok hG (by decide +kernel)) (sh_rf hG (by decide +kernel)) ?_
  refine e_L (L' := [some (aR 119), some (aI v1), none]) (st' := [aR 119, aR 19, aR 2]) (show decode (mC 65) 76 = .ok (.aload_n 0, 1) by decide +kernel) rfl (by show (if 119 = 0 then none else some (_, _)) = _; rw [if_neg (by decide)]) ?_
  refine e_getR (w := 18) (show decode (mC 65) 77 = .ok (.getfield 15, 3) by decide +kernel) (show pl 7 15 = some (0, 7, 1, 0) by decide +kernel) (by decide) (sh_ok hG (by decide +kernel)) (sh_rf hG (by decide +kernel)) ?_
  refine e_getIx (show decode (mC 65) 80 = .ok (.getfield 76, 3) by decide +kernel) (show pl 7 76 = some (0, 8, 0, 0) by decide +kernel) (by decide) (sh_ok hG (by decide +kernel)) ex1 ?_
  exact e_V (as := [aR 2, aR 19, aI x1]) (rest := []) (show decode (mC 65) 83 = .ok (.invokevirtual 101, 3) by decide +kernel) (by decide +kernel) (show (decide ((3 : Nat) = mA 107) && decide (107 < q_law)) = true by decide +kernel) rfl (show (0 : Nat) ≤ 8 by decide) (show (3 : Nat) ≤ mL 107 by decide +kernel) rfl (sh_ok hG (by decide +kernel)) m1
/-- SoulOffice$OfficeText.readWish()Z, from 86 -/
theorem b65_86 (hG : Shp G) {v1 u0 : Int}
    (s0 : -2147483648 ≤ u0 ∧ u0 < 2147483648)
    (s1 : (¬ u0 = (-1)) → 0 ≤ v1)
    (s2 : (¬ u0 = (-1)) → v1 < 8)
    (z3 : (¬ u0 = (-1)) → Q (.inl (some (aI 1))) (G, (q_up c 25 v1 u0)))
    (z4 : (u0 = (-1)) → Q (.inl (some (aI 0))) (G, c)) :
    T (d + 1) 65 86 [some (aR 119), some (aI v1), none] [aI u0] (G, c) Q := by
  refine e_L (L' := [some (aR 119), some (aI v1), some (aI u0)]) (st' := []) (show decode (mC 65) 86 = .ok (.istore_n 2, 1) by decide +kernel) rfl rfl ?_
  refine e_L (L' := [some (aR 119), some (aI v1), some (aI u0)]) (st' := [aI u0]) (show decode (mC 65) 87 = .ok (.iload_n 2, 1) by decide +kernel) rfl rfl ?_
  refine e_P (st' := [aI (-1), aI u0]) (show decode (mC 65) 88 = .ok (.iconst (-1), 1) by decide +kernel) rfl rfl rfl ?_
  refine e_ne2 (t := 94) (show decode (mC 65) 89 = .ok (.if_icmp .ne 5, 3) by decide +kernel) (by decide) s0 (by decide) (fun p1 => ?_) (fun p1 => ?_)
  · refine e_L (L' := [some (aR 119), some (aI v1), some (aI u0)]) (st' := [aR 119]) (show decode (mC 65) 94 = .ok (.aload_n 0, 1) by decide +kernel) rfl (by show (if 119 = 0 then none else some (_, _)) = _; rw [if_neg (by decide)]) ?_
    refine e_getR (w := 18) (show decode (mC 65) 95 = .ok (.getfield 15, 3) by decide +kernel) (show pl 7 15 = some (0, 7, 1, 0) by decide +kernel) (by decide) (sh_ok hG (by decide +kernel)) (sh_rf hG (by decide +kernel)) ?_
    refine e_getR (w := 25) (show decode (mC 65) 98 = .ok (.getfield 135, 3) by decide +kernel) (show pl 7 135 = some (0, 8, 9, 0) by decide +kernel) (by decide) (sh_ok hG (by decide +kernel)) (sh_rf hG (by decide +kernel)) ?_
    refine e_L (L' := [some (aR 119), some (aI v1), some (aI u0)]) (st' := [aI v1, aR 25]) (show decode (mC 65) 101 = .ok (.iload_n 1, 1) by decide +kernel) rfl rfl ?_
    refine e_L (L' := [some (aR 119), some (aI v1), some (aI u0)]) (st' := [aI u0, aI v1, aR 25]) (show decode (mC 65) 102 = .ok (.iload_n 2, 1) by decide +kernel) rfl rfl ?_
    refine e_iast (n := 8) (show decode (mC 65) 103 = .ok (.iastore, 1) by decide +kernel) (sh_ok hG (by decide +kernel)) (sh_ln hG (by decide +kernel)) (by decide) (s1 p1) (s2 p1) ?_
    refine e_P (st' := [aI 1]) (show decode (mC 65) 104 = .ok (.iconst 1, 1) by decide +kernel) rfl rfl rfl ?_
    exact e_zret (show decode (mC 65) 105 = .ok (.ireturn, 1) by decide +kernel) rfl (by decide) (z3 p1)
  · refine e_P (st' := [aI 0]) (show decode (mC 65) 92 = .ok (.iconst 0, 1) by decide +kernel) rfl rfl rfl ?_
    exact e_zret (show decode (mC 65) 93 = .ok (.ireturn, 1) by decide +kernel) rfl (by decide) (z4 p1)
/-- SoulOffice$OfficeText.readDebt()Z, from 0 -/
theorem b66_0 (hG : Shp G)
    (m0 : TM d 98 [aR 2] (G, c) (fun r h' => T (d + 1) 66 7 [some (aR 119), none, none, none] (r.toList ++ []) h' Q)) :
    T (d + 1) 66 0 [some (aR 119), none, none, none] [] (G, c) Q := by
  refine e_L (L' := [some (aR 119), none, none, none]) (st' := [aR 119]) (show decode (mC 66) 0 = .ok (.aload_n 0, 1) by decide +kernel) rfl (by show (if 119 = 0 then none else some (_, _)) = _; rw [if_neg (by decide)]) ?_
  refine e_getR (w := 2) (show decode (mC 66) 1 = .ok (.getfield 9, 3) by decide +kernel) (show pl 7 9 = some (0, 7, 0, 0) by decide +kernel) (by decide) (sh_ok hG (by decide +kernel)) (sh_rf hG (by decide +kernel)) ?_
  exact e_V (as := [aR 2]) (rest := []) (show decode (mC 66) 4 = .ok (.invokevirtual 79, 3) by decide +kernel) (by decide +kernel) (show (decide ((1 : Nat) = mA 98) && decide (98 < q_law)) = true by decide +kernel) rfl (show (0 : Nat) ≤ 8 by decide) (show (1 : Nat) ≤ mL 98 by decide +kernel) rfl (sh_ok hG (by decide +kernel)) m0
/-- SoulOffice$OfficeText.readDebt()Z, from 7 -/
theorem b66_7 (hG : Shp G) {x1 : Int}
    (ex1 : c 18 1 = x1)
    (m1 : TM d 107 [aR 2, aR 20, aI x1] (G, c) (fun r h' => T (d + 1) 66 28 [some (aR 119), none, none, none] (r.toList ++ []) h' Q)) :
    T (d + 1) 66 7 [some (aR 119), none, none, none] [] (G, c) Q := by
  refine e_L (L' := [some (aR 119), none, none, none]) (st' := [aR 119]) (show decode (mC 66) 7 = .ok (.aload_n 0, 1) by decide +kernel) rfl (by show (if 119 = 0 then none else some (_, _)) = _; rw [if_neg (by decide)]) ?_
  refine e_getR (w := 2) (show decode (mC 66) 8 = .ok (.getfield 9, 3) by decide +kernel) (show pl 7 9 = some (0, 7, 0, 0) by decide +kernel) (by decide) (sh_ok hG (by decide +kernel)) (sh_rf hG (by decide +kernel)) ?_
  refine e_L (L' := [some (aR 119), none, none, none]) (st' := [aR 119, aR 2]) (show decode (mC 66) 11 = .ok (.aload_n 0, 1) by decide +kernel) rfl (by show (if 119 = 0 then none else some (_, _)) = _; rw [if_neg (by decide)]) ?_
  refine e_getR (w := 18) (show decode (mC 66) 12 = .ok (.getfield 15, 3) by decide +kernel) (show pl 7 15 = some (0, 7, 1, 0) by decide +kernel) (by decide) (sh_ok hG (by decide +kernel)) (sh_rf hG (by decide +kernel)) ?_
  refine e_getR (w := 20) (show decode (mC 66) 15 = .ok (.getfield 122, 3) by decide +kernel) (show pl 7 122 = some (0, 8, 4, 0) by decide +kernel) (by decide) (sh_ok hG (by decide +kernel)) (sh_rf hG (by decide +kernel)) ?_
  refine e_L (L' := [some (aR 119), none, none, none]) (st' := [aR 119, aR 20, aR 2]) (show decode (mC 66) 18 = .ok (.aload_n 0, 1) by decide +kernel) rfl (by show (if 119 = 0 then none else some (_, _)) = _; rw [if_neg (by decide)]) ?_
  refine e_getR (w := 18) (show decode (mC 66) 19 = .ok (.getfield 15, 3) by decide +kernel) (show pl 7 15 = some (0, 7, 1, 0) by decide +kernel) (by decide) (sh_ok hG (by decide +kernel)) (sh_rf hG (by decide +kernel)) ?_
  refine e_getIx (show decode (mC 66) 22 = .ok (.getfield 115, 3) by decide +kernel) (show pl 7 115 = some (0, 8, 1, 0) by decide +kernel) (by decide) (sh_ok hG (by decide +kernel)) ex1 ?_
  exact e_V (as := [aR 2, aR 20, aI x1]) (rest := []) (show decode (mC 66) 25 = .ok (.invokevirtual 101, 3) by decide +kernel) (by decide +kernel) (show (decide ((3 : Nat) = mA 107) && decide (107 < q_law)) = true by decide +kernel) rfl (show (0 : Nat) ≤ 8 by decide) (show (3 : Nat) ≤ mL 107 by decide +kernel) rfl (sh_ok hG (by decide +kernel)) m1
/-- SoulOffice$OfficeText.readDebt()Z, from 28 -/
theorem b66_28 (hG : Shp G) {u0 x1 : Int}
    (s0 : -2147483648 ≤ u0 ∧ u0 < 2147483648)
    (ex1 : c 18 1 = x1)
    (m2 : (¬ u0 = (-1)) → TM d 106 [aR 2, aR 20, aI x1] (G, c) (fun r h' => T (d + 1) 66 57 [some (aR 119), some (aI u0), none, none] (r.toList ++ []) h' Q))
    (z3 : (u0 = (-1)) → Q (.inl (some (aI 0))) (G, c)) :
    T (d + 1) 66 28 [some (aR 119), none, none, none] [aI u0] (G, c) Q := by
  refine e_L (L' := [some (aR 119), some (aI u0), none, none]) (st' := []) (show decode (mC 66) 28 = .ok (.istore_n 1, 1) by decide +kernel) rfl rfl ?_
  refine e_L (L' := [some (aR 119), some (aI u0), none, none]) (st' := [aI u0]) (show decode (mC 66) 29 = .ok (.iload_n 1, 1) by decide +kernel) rfl rfl ?_
  refine e_P (st' := [aI (-1), aI u0]) (show decode (mC 66) 30 = .ok (.iconst (-1), 1) by decide +kernel) rfl rfl rfl ?_
  refine e_ne2 (t := 36) (show decode (mC 66) 31 = .ok (.if_icmp .ne 5, 3) by decide +kernel) (by decide) s0 (by decide) (fun p1 => ?_) (fun p1 => ?_)
  · refine e_L (L' := [some (aR 119), some (aI u0), none, none]) (st' := [aR 119]) (show decode (mC 66) 36 = .ok (.aload_n 0, 1) by decide +kernel) rfl (by show (if 119 = 0 then none else some (_, _)) = _; rw [if_neg (by decide)]) ?_
    refine e_getR (w := 2) (show decode (mC 66) 37 = .ok (.getfield 9, 3) by decide +kernel) (show pl 7 9 = some (0, 7, 0, 0) by decide +kernel) (by decide) (sh_ok hG (by decide +kernel)) (sh_rf hG (by decide +kernel)) ?_
    refine e_L (L' := [some (aR 119), some (aI u0), none, none]) (st' := [aR 119, aR 2]) (show decode (mC 66) 40 = .ok (.aload_n 0, 1) by decide +kernel) rfl (by show (if 119 = 0 then none else some (_, _)) = _; rw [if_neg (by decide)]) ?_
    refine e_getR (w := 18) (show decode (mC 66) 41 = .ok (.getfield 15, 3) by decide +kernel) (show pl 7 15 = some (0, 7, 1, 0) by decide +kernel) (by decide) (sh_ok hG (by decide +kernel)) (sh_rf hG (by decide +kernel)) ?_
    refine e_getR (w := 20) (show decode (mC 66) 44 = .ok (.getfield 122, 3) by decide +kernel) (show pl 7 122 = some (0, 8, 4, 0) by decide +kernel) (by decide) (sh_ok hG (by decide +kernel)) (sh_rf hG (by decide +kernel)) ?_
    refine e_L (L' := [some (aR 119), some (aI u0), none, none]) (st' := [aR 119, aR 20, aR 2]) (show decode (mC 66) 47 = .ok (.aload_n 0, 1) by decide +kernel) rfl (by show (if 119 = 0 then none else some (_, _)) = _; rw [if_neg (by decide)]) ?_
    refine e_getR (w := 18) (show decode (mC 66) 48 = .ok (.getfield 15, 3) by decide +kernel) (show pl 7 15 = some (0, 7, 1, 0) by decide +kernel) (by decide) (sh_ok hG (by decide +kernel)) (sh_rf hG (by decide +kernel)) ?_
    refine e_getIx (show decode (mC 66) 51 = .ok (.getfield 115, 3) by decide +kernel) (show pl 7 115 = some (0, 8, 1, 0) by decide +kernel) (by decide) (sh_ok hG (by decide +kernel)) ex1 ?_
    exact e_V (as := [aR 2, aR 20, aI x1]) (rest := []) (show decode (mC 66) 54 = .ok (.invokevirtual 105, 3) by decide +kernel) (by decide +kernel) (show (decide ((3 : Nat) = mA 106) && decide (106 < q_law)) = true by decide +kernel) rfl (show (0 : Nat) ≤ 8 by decide) (show (3 : Nat) ≤ mL 106 by decide +kernel) rfl (sh_ok hG (by decide +kernel)) (m2 p1)
  · refine e_P (st' := [aI 0]) (show decode (mC 66) 34 = .ok (.iconst 0, 1) by decide +kernel) rfl rfl rfl ?_
    exact e_zret (show decode (mC 66) 35 = .ok (.ireturn, 1) by decide +kernel) rfl (by decide) (z3 p1)
/-- SoulOffice$OfficeText.readDebt()Z, from 57 -/
theorem b66_57 (hG : Shp G) {v1 u0 : Int} (hQ : ∀ o o' h', q_eqo o o' → Q o h' → Q o' h')
    (s0 : -2147483648 ≤ u0 ∧ u0 < 2147483648)
    (s1 : (¬ u0 = (-1)) → -2147483648 ≤ v1 ∧ v1 < 2147483648)
    (m2 : (¬ u0 = (-1)) → (v1 = u0) → TM d 99 [aR 2, aI 3] (G, c) (fun r h' => T (d + 1) 66 94 [none, none, none, none] (r.toList ++ []) h' Q))
    (m3 : (¬ u0 = (-1)) → (¬ v1 = u0) → TM d 151 [aI v1, aI u0] (G, c) (fun r h' => T (d + 1) 66 82 [some (aR 119), some (aI v1), some (aI u0), none] (r.toList ++ [aR 26]) h' Q))
    (z4 : (u0 = (-1)) → Q (.inl (some (aI 0))) (G, c)) :
    T (d + 1) 66 57 [some (aR 119), some (aI v1), none, none] [aI u0] (G, c) Q := by
  refine e_L (L' := [some (aR 119), some (aI v1), some (aI u0), none]) (st' := []) (show decode (mC 66) 57 = .ok (.istore_n 2, 1) by decide +kernel) rfl rfl ?_
  refine e_L (L' := [some (aR 119), some (aI v1), some (aI u0), none]) (st' := [aI u0]) (show decode (mC 66) 58 = .ok (.iload_n 2, 1) by decide +kernel) rfl rfl ?_
  refine e_P (st' := [aI (-1), aI u0]) (show decode (mC 66) 59 = .ok (.iconst (-1), 1) by decide +kernel) rfl rfl rfl ?_
  refine e_ne2 (t := 65) (show decode (mC 66) 60 = .ok (.if_icmp .ne 5, 3) by decide +kernel) (by decide) s0 (by decide) (fun p1 => ?_) (fun p1 => ?_)
  · refine e_L (L' := [some (aR 119), some (aI v1), some (aI u0), none]) (st' := [aI v1]) (show decode (mC 66) 65 = .ok (.iload_n 1, 1) by decide +kernel) rfl rfl ?_
    refine e_L (L' := [some (aR 119), some (aI v1), some (aI u0), none]) (st' := [aI u0, aI v1]) (show decode (mC 66) 66 = .ok (.iload_n 2, 1) by decide +kernel) rfl rfl ?_
    refine e_eq2 (t := 86) (show decode (mC 66) 67 = .ok (.if_icmp .eq 19, 3) by decide +kernel) (by decide) (s1 p1) s0 (fun p2 => ?_) (fun p2 => ?_)
    · refine e_L (L' := [some (aR 119), some (aI v1), some (aI u0), none]) (st' := [aR 119]) (show decode (mC 66) 86 = .ok (.aload_n 0, 1) by decide +kernel) rfl (by show (if 119 = 0 then none else some (_, _)) = _; rw [if_neg (by decide)]) ?_
      refine e_getR (w := 2) (show decode (mC 66) 87 = .ok (.getfield 9, 3) by decide +kernel) (show pl 7 9 = some (0, 7, 0, 0) by decide +kernel) (by decide) (sh_ok hG (by decide +kernel)) (sh_rf hG (by decide +kernel)) ?_
      refine e_P (st' := [aI 3, aR 2]) (show decode (mC 66) 90 = .ok (.iconst 3, 1) by decide +kernel) rfl rfl rfl ?_
      exact e_V (as := [aR 2, aI 3]) (rest := []) (show decode (mC 66) 91 = .ok (.invokevirtual 48, 3) by decide +kernel) (by decide +kernel) (show (decide ((2 : Nat) = mA 99) && decide (99 < q_law)) = true by decide +kernel) rfl (show (0 : Nat) ≤ 8 by decide) (show (2 : Nat) ≤ mL 99 by decide +kernel) rfl (sh_ok hG (by decide +kernel)) (tm_le hQ (leN (leN (leN (leS leE)))) (m2 p1 p2))
    · refine e_L (L' := [some (aR 119), some (aI v1), some (aI u0), none]) (st' := [aR 119]) (show decode (mC 66) 70 = .ok (.aload_n 0, 1) by decide +kernel) rfl (by show (if 119 = 0 then none else some (_, _)) = _; rw [if_neg (by decide)]) ?_
      refine e_getR (w := 18) (show decode (mC 66) 71 = .ok (.getfield 15, 3) by decide +kernel) (show pl 7 15 = some (0, 7, 1, 0) by decide +kernel) (by decide) (sh_ok hG (by decide +kernel)) (sh_rf hG (by decide +kernel)) ?_
      refine e_getR (w := 26) (show decode (mC 66) 74 = .ok (.getfield 138, 3) by decide +kernel) (show pl 7 138 = some (0, 8, 10, 0) by decide +kernel) (by decide) (sh_ok hG (by decide +kernel)) (sh_rf hG (by decide +kernel)) ?_
      refine e_L (L' := [some (aR 119), some (aI v1), some (aI u0), none]) (st' := [aI v1, aR 26]) (show decode (mC 66) 77 = .ok (.iload_n 1, 1) by decide +kernel) rfl rfl ?_
      refine e_L (L' := [some (aR 119), some (aI v1), some (aI u0), none]) (st' := [aI u0, aI v1, aR 26]) (show decode (mC 66) 78 = .ok (.iload_n 2, 1) by decide +kernel) rfl rfl ?_
      exact e_S (as := [aI v1, aI u0]) (rest := [aR 26]) (show decode (mC 66) 79 = .ok (.invokestatic 141, 3) by decide +kernel) (by decide +kernel) (show (decide ((2 : Nat) = mA 151) && decide (151 < q_law)) = true by decide +kernel) rfl (show (1 : Nat) ≤ 8 by decide) (show (2 : Nat) ≤ mL 151 by decide +kernel) (m3 p1 p2)
  · refine e_P (st' := [aI 0]) (show decode (mC 66) 63 = .ok (.iconst 0, 1) by decide +kernel) rfl rfl rfl ?_
    exact e_zret (show decode (mC 66) 64 = .ok (.ireturn, 1) by decide +kernel) rfl (by decide) (z4 p1)
/-- SoulOffice$OfficeText.readDebt()Z, from 82 -/
theorem b66_82 (hG : Shp G) {v1 v2 u1 x1 : Int} (hQ : ∀ o o' h', q_eqo o o' → Q o h' → Q o' h')
    (s0 : 0 ≤ u1)
    (s1 : u1 < 64)
    (ex1 : c 26 u1 = x1)
    (s3 : -2147483648 ≤ x1 ∧ x1 < 2147483648)
    (m4 : (x1 = 0) → TM d 98 [aR 2] (G, c) (fun r h' => T (d + 1) 66 102 [some (aR 119), some (aI v1), some (aI v2), none] (r.toList ++ []) h' Q))
    (m5 : (¬ x1 = 0) → TM d 99 [aR 2, aI 3] (G, c) (fun r h' => T (d + 1) 66 94 [none, none, none, none] (r.toList ++ []) h' Q)) :
    T (d + 1) 66 82 [some (aR 119), some (aI v1), some (aI v2), none] [aI u1, aR 26] (G, c) Q := by
  refine e_ialdx (n := 64) (show decode (mC 66) 82 = .ok (.iaload, 1) by decide +kernel) (sh_ok hG (by decide +kernel)) (sh_ln hG (by decide +kernel)) (by decide) s0 s1 ex1 ?_
  refine e_eq1 (t := 95) (show decode (mC 66) 83 = .ok (.ifCond .eq 12, 3) by decide +kernel) (by decide) s3 (fun p1 => ?_) (fun p1 => ?_)
  · refine e_L (L' := [some (aR 119), some (aI v1), some (aI v2), none]) (st' := [aR 119]) (show decode (mC 66) 95 = .ok (.aload_n 0, 1) by decide +kernel) rfl (by show (if 119 = 0 then none else some (_, _)) = _; rw [if_neg (by decide)]) ?_
    refine e_getR (w := 2) (show decode (mC 66) 96 = .ok (.getfield 9, 3) by decide +kernel) (show pl 7 9 = some (0, 7, 0, 0) by decide +kernel) (by decide) (sh_ok hG (by decide +kernel)) (sh_rf hG (by decide +kernel)) ?_
    exact e_V (as := [aR 2]) (rest := []) (show decode (mC 66) 99 = .ok (.invokevirtual 79, 3) by decide +kernel) (by decide +kernel) (show (decide ((1 : Nat) = mA 98) && decide (98 < q_law)) = true by decide +kernel) rfl (show (0 : Nat) ≤ 8 by decide) (show (1 : Nat) ≤ mL 98 by decide +kernel) rfl (sh_ok hG (by decide +kernel)) (m4 p1)
  · refine e_L (L' := [some (aR 119), some (aI v1), some (aI v2), none]) (st' := [aR 119]) (show decode (mC 66) 86 = .ok (.aload_n 0, 1) by decide +kernel) rfl (by show (if 119 = 0 then none else some (_, _)) = _; rw [if_neg (by decide)]) ?_
    refine e_getR (w := 2) (show decode (mC 66) 87 = .ok (.getfield 9, 3) by decide +kernel) (show pl 7 9 = some (0, 7, 0, 0) by decide +kernel) (by decide) (sh_ok hG (by decide +kernel)) (sh_rf hG (by decide +kernel)) ?_
    refine e_P (st' := [aI 3, aR 2]) (show decode (mC 66) 90 = .ok (.iconst 3, 1) by decide +kernel) rfl rfl rfl ?_
    exact e_V (as := [aR 2, aI 3]) (rest := []) (show decode (mC 66) 91 = .ok (.invokevirtual 48, 3) by decide +kernel) (by decide +kernel) (show (decide ((2 : Nat) = mA 99) && decide (99 < q_law)) = true by decide +kernel) rfl (show (0 : Nat) ≤ 8 by decide) (show (2 : Nat) ≤ mL 99 by decide +kernel) rfl (sh_ok hG (by decide +kernel)) (tm_le hQ (leN (leN (leN (leS leE)))) (m5 p1))
/-- SoulOffice$OfficeText.readDebt()Z, from 94 -/
theorem b66_94 (hG : Shp G) {u0 : Int}
    (s0 : u0 = 0 ∨ u0 = 1)
    (z1 : Q (.inl (some (aI u0))) (G, c)) :
    T (d + 1) 66 94 [none, none, none, none] [aI u0] (G, c) Q := by
  exact e_zret (show decode (mC 66) 94 = .ok (.ireturn, 1) by decide +kernel) rfl s0 z1
/-- SoulOffice$OfficeText.readDebt()Z, from 102 -/
theorem b66_102 (hG : Shp G) {v1 v2 : Int}
    (m0 : TM d 105 [aR 2, aI 1, aI 999] (G, c) (fun r h' => T (d + 1) 66 113 [some (aR 119), some (aI v1), some (aI v2), none] (r.toList ++ []) h' Q)) :
    T (d + 1) 66 102 [some (aR 119), some (aI v1), some (aI v2), none] [] (G, c) Q := by
  refine e_L (L' := [some (aR 119), some (aI v1), some (aI v2), none]) (st' := [aR 119]) (show decode (mC 66) 102 = .ok (.aload_n 0, 1) by decide +kernel) rfl (by show (if 119 = 0 then none else some (_, _)) = _; rw [if_neg (by decide)]) ?_
  refine e_getR (w := 2) (show decode (mC 66) 103 = .ok (.getfield 9, 3) by decide +kernel) (show pl 7 9 = some (0, 7, 0, 0) by decide +kernel) (by decide) (sh_ok hG (by decide +kernel)) (sh_rf hG (by decide +kernel)) ?_
  refine e_P (st' := [aI 1, aR 2]) (show decode (mC 66) 106 = .ok (.iconst 1, 1) by decide +kernel) rfl rfl rfl ?_
  refine e_P (st' := [aI 999, aI 1, aR 2]) (show decode (mC 66) 107 = .ok (.sipush 999, 3) by decide +kernel) rfl rfl rfl ?_
  exact e_V (as := [aR 2, aI 1, aI 999]) (rest := []) (show decode (mC 66) 110 = .ok (.invokevirtual 89, 3) by decide +kernel) (by decide +kernel) (show (decide ((3 : Nat) = mA 105) && decide (105 < q_law)) = true by decide +kernel) rfl (show (0 : Nat) ≤ 8 by decide) (show (3 : Nat) ≤ mL 105 by decide +kernel) rfl (sh_ok hG (by decide +kernel)) m0
/-- SoulOffice$OfficeText.readDebt()Z, from 113 -/
theorem b66_113 (hG : Shp G) {v1 v2 u0 : Int} (hQ : ∀ o o' h', q_eqo o o' → Q o h' → Q o' h')
    (s0 : -2147483648 ≤ u0 ∧ u0 < 2147483648)
    (m1 : (¬ u0 = (-1)) → TM d 151 [aI v1, aI v2] (G, c) (fun r h' => T (d + 1) 66 133 [none, none, none, some (aI u0)] (r.toList ++ [aR 26]) h' Q))
    (z2 : (u0 = (-1)) → Q (.inl (some (aI 0))) (G, c)) :
    T (d + 1) 66 113 [some (aR 119), some (aI v1), some (aI v2), none] [aI u0] (G, c) Q := by
  refine e_L (L' := [some (aR 119), some (aI v1), some (aI v2), some (aI u0)]) (st' := []) (show decode (mC 66) 113 = .ok (.istore_n 3, 1) by decide +kernel) rfl rfl ?_
  refine e_L (L' := [some (aR 119), some (aI v1), some (aI v2), some (aI u0)]) (st' := [aI u0]) (show decode (mC 66) 114 = .ok (.iload_n 3, 1) by decide +kernel) rfl rfl ?_
  refine e_P (st' := [aI (-1), aI u0]) (show decode (mC 66) 115 = .ok (.iconst (-1), 1) by decide +kernel) rfl rfl rfl ?_
  refine e_ne2 (t := 121) (show decode (mC 66) 116 = .ok (.if_icmp .ne 5, 3) by decide +kernel) (by decide) s0 (by decide) (fun p1 => ?_) (fun p1 => ?_)
  · refine e_L (L' := [some (aR 119), some (aI v1), some (aI v2), some (aI u0)]) (st' := [aR 119]) (show decode (mC 66) 121 = .ok (.aload_n 0, 1) by decide +kernel) rfl (by show (if 119 = 0 then none else some (_, _)) = _; rw [if_neg (by decide)]) ?_
    refine e_getR (w := 18) (show decode (mC 66) 122 = .ok (.getfield 15, 3) by decide +kernel) (show pl 7 15 = some (0, 7, 1, 0) by decide +kernel) (by decide) (sh_ok hG (by decide +kernel)) (sh_rf hG (by decide +kernel)) ?_
    refine e_getR (w := 26) (show decode (mC 66) 125 = .ok (.getfield 138, 3) by decide +kernel) (show pl 7 138 = some (0, 8, 10, 0) by decide +kernel) (by decide) (sh_ok hG (by decide +kernel)) (sh_rf hG (by decide +kernel)) ?_
    refine e_L (L' := [some (aR 119), some (aI v1), some (aI v2), some (aI u0)]) (st' := [aI v1, aR 26]) (show decode (mC 66) 128 = .ok (.iload_n 1, 1) by decide +kernel) rfl rfl ?_
    refine e_L (L' := [some (aR 119), some (aI v1), some (aI v2), some (aI u0)]) (st' := [aI v2, aI v1, aR 26]) (show decode (mC 66) 129 = .ok (.iload_n 2, 1) by decide +kernel) rfl rfl ?_
    exact e_S (as := [aI v1, aI v2]) (rest := [aR 26]) (show decode (mC 66) 130 = .ok (.invokestatic 141, 3) by decide +kernel) (by decide +kernel) (show (decide ((2 : Nat) = mA 151) && decide (151 < q_law)) = true by decide +kernel) rfl (show (1 : Nat) ≤ 8 by decide) (show (2 : Nat) ≤ mL 151 by decide +kernel) (tm_le hQ (leN (leN (leN (leS leE)))) (m1 p1))
  · refine e_P (st' := [aI 0]) (show decode (mC 66) 119 = .ok (.iconst 0, 1) by decide +kernel) rfl rfl rfl ?_
    exact e_zret (show decode (mC 66) 120 = .ok (.ireturn, 1) by decide +kernel) rfl (by decide) (z2 p1)
/-- SoulOffice$OfficeText.readDebt()Z, from 133 -/
theorem b66_133 (hG : Shp G) {v3 u1 : Int}
    (s0 : 0 ≤ u1)
    (s1 : u1 < 64)
    (z2 : Q (.inl (some (aI 1))) (G, (q_up c 26 u1 v3))) :
    T (d + 1) 66 133 [none, none, none, some (aI v3)] [aI u1, aR 26] (G, c) Q := by
  refine e_L (L' := [none, none, none, some (aI v3)]) (st' := [aI v3, aI u1, aR 26]) (show decode (mC 66) 133 = .ok (.iload_n 3, 1) by decide +kernel) rfl rfl ?_
  refine e_iast (n := 64) (show decode (mC 66) 134 = .ok (.iastore, 1) by decide +kernel) (sh_ok hG (by decide +kernel)) (sh_ln hG (by decide +kernel)) (by decide) s0 s1 ?_
  refine e_P (st' := [aI 1]) (show decode (mC 66) 135 = .ok (.iconst 1, 1) by decide +kernel) rfl rfl rfl ?_
  exact e_zret (show decode (mC 66) 136 = .ok (.ireturn, 1) by decide +kernel) rfl (by decide) z2
/-- SoulOffice$OfficeText.readGrows()Z, from 0 -/
theorem b67_0 (hG : Shp G) {x1 : Int} (hQ : ∀ o o' h', q_eqo o o' → Q o h' → Q o' h')
    (ex1 : c 18 2 = x1)
    (s1 : -2147483648 ≤ x1 ∧ x1 < 2147483648)
    (m2 : (x1 = (-1)) → TM d 98 [aR 2] (G, c) (fun r h' => T (d + 1) 67 27 [some (aR 119)] (r.toList ++ []) h' Q))
    (m3 : (¬ x1 = (-1)) → TM d 99 [aR 2, aI 3] (G, c) (fun r h' => T (d + 1) 67 19 [none] (r.toList ++ []) h' Q)) :
    T (d + 1) 67 0 [some (aR 119)] [] (G, c) Q := by
  refine e_L (L' := [some (aR 119)]) (st' := [aR 119]) (show decode (mC 67) 0 = .ok (.aload_n 0, 1) by decide +kernel) rfl (by show (if 119 = 0 then none else some (_, _)) = _; rw [if_neg (by decide)]) ?_
  refine e_getR (w := 18) (show decode (mC 67) 1 = .ok (.getfield 15, 3) by decide +kernel) (show pl 7 15 = some (0, 7, 1, 0) by decide +kernel) (by decide) (sh_ok hG (by decide +kernel)) (sh_rf hG (by decide +kernel)) ?_
  refine e_getIx (show decode (mC 67) 4 = .ok (.getfield 144, 3) by decide +kernel) (show pl 7 144 = some (0, 8, 2, 0) by decide +kernel) (by decide) (sh_ok hG (by decide +kernel)) ex1 ?_
  refine e_P (st' := [aI (-1), aI x1]) (show decode (mC 67) 7 = .ok (.iconst (-1), 1) by decide +kernel) rfl rfl rfl ?_
  refine e_eq2 (t := 20) (show decode (mC 67) 8 = .ok (.if_icmp .eq 12, 3) by decide +kernel) (by decide) s1 (by decide) (fun p1 => ?_) (fun p1 => ?_)
  · refine e_L (L' := [some (aR 119)]) (st' := [aR 119]) (show decode (mC 67) 20 = .ok (.aload_n 0, 1) by decide +kernel) rfl (by show (if 119 = 0 then none else some (_, _)) = _; rw [if_neg (by decide)]) ?_
    refine e_getR (w := 2) (show decode (mC 67) 21 = .ok (.getfield 9, 3) by decide +kernel) (show pl 7 9 = some (0, 7, 0, 0) by decide +kernel) (by decide) (sh_ok hG (by decide +kernel)) (sh_rf hG (by decide +kernel)) ?_
    exact e_V (as := [aR 2]) (rest := []) (show decode (mC 67) 24 = .ok (.invokevirtual 79, 3) by decide +kernel) (by decide +kernel) (show (decide ((1 : Nat) = mA 98) && decide (98 < q_law)) = true by decide +kernel) rfl (show (0 : Nat) ≤ 8 by decide) (show (1 : Nat) ≤ mL 98 by decide +kernel) rfl (sh_ok hG (by decide +kernel)) (m2 p1)
  · refine e_L (L' := [some (aR 119)]) (st' := [aR 119]) (show decode (mC 67) 11 = .ok (.aload_n 0, 1) by decide +kernel) rfl (by show (if 119 = 0 then none else some (_, _)) = _; rw [if_neg (by decide)]) ?_
    refine e_getR (w := 2) (show decode (mC 67) 12 = .ok (.getfield 9, 3) by decide +kernel) (show pl 7 9 = some (0, 7, 0, 0) by decide +kernel) (by decide) (sh_ok hG (by decide +kernel)) (sh_rf hG (by decide +kernel)) ?_
    refine e_P (st' := [aI 3, aR 2]) (show decode (mC 67) 15 = .ok (.iconst 3, 1) by decide +kernel) rfl rfl rfl ?_
    exact e_V (as := [aR 2, aI 3]) (rest := []) (show decode (mC 67) 16 = .ok (.invokevirtual 48, 3) by decide +kernel) (by decide +kernel) (show (decide ((2 : Nat) = mA 99) && decide (99 < q_law)) = true by decide +kernel) rfl (show (0 : Nat) ≤ 8 by decide) (show (2 : Nat) ≤ mL 99 by decide +kernel) rfl (sh_ok hG (by decide +kernel)) (tm_le hQ (leN leE) (m3 p1))
/-- SoulOffice$OfficeText.readGrows()Z, from 19 -/
theorem b67_19 (hG : Shp G) {u0 : Int}
    (s0 : u0 = 0 ∨ u0 = 1)
    (z1 : Q (.inl (some (aI u0))) (G, c)) :
    T (d + 1) 67 19 [none] [aI u0] (G, c) Q := by
  exact e_zret (show decode (mC 67) 19 = .ok (.ireturn, 1) by decide +kernel) rfl s0 z1
/-- SoulOffice$OfficeText.readGrows()Z, from 27 -/
theorem b67_27 (hG : Shp G)
    (m0 : TM d 105 [aR 2, aI 0, aI 9] (G, c) (fun r h' => T (d + 1) 67 41 [some (aR 119)] (r.toList ++ [aR 18]) h' Q)) :
    T (d + 1) 67 27 [some (aR 119)] [] (G, c) Q := by
  refine e_L (L' := [some (aR 119)]) (st' := [aR 119]) (show decode (mC 67) 27 = .ok (.aload_n 0, 1) by decide +kernel) rfl (by show (if 119 = 0 then none else some (_, _)) = _; rw [if_neg (by decide)]) ?_
  refine e_getR (w := 18) (show decode (mC 67) 28 = .ok (.getfield 15, 3) by decide +kernel) (show pl 7 15 = some (0, 7, 1, 0) by decide +kernel) (by decide) (sh_ok hG (by decide +kernel)) (sh_rf hG (by decide +kernel)) ?_
  refine e_L (L' := [some (aR 119)]) (st' := [aR 119, aR 18]) (show decode (mC 67) 31 = .ok (.aload_n 0, 1) by decide +kernel) rfl (by show (if 119 = 0 then none else some (_, _)) = _; rw [if_neg (by decide)]) ?_
  refine e_getR (w := 2) (show decode (mC 67) 32 = .ok (.getfield 9, 3) by decide +kernel) (show pl 7 9 = some (0, 7, 0, 0) by decide +kernel) (by decide) (sh_ok hG (by decide +kernel)) (sh_rf hG (by decide +kernel)) ?_
  refine e_P (st' := [aI 0, aR 2, aR 18]) (show decode (mC 67) 35 = .ok (.iconst 0, 1) by decide +kernel) rfl rfl rfl ?_
  refine e_P (st' := [aI 9, aI 0, aR 2, aR 18]) (show decode (mC 67) 36 = .ok (.bipush 9, 2) by decide +kernel) rfl rfl rfl ?_
  exact e_V (as := [aR 2, aI 0, aI 9]) (rest := [aR 18]) (show decode (mC 67) 38 = .ok (.invokevirtual 89, 3) by decide +kernel) (by decide +kernel) (show (decide ((3 : Nat) = mA 105) && decide (105 < q_law)) = true by decide +kernel) rfl (show (1 : Nat) ≤ 8 by decide) (show (3 : Nat) ≤ mL 105 by decide +kernel) rfl (sh_ok hG (by decide +kernel)) m0
/-- SoulOffice$OfficeText.readGrows()Z, from 41 -/
theorem b67_41 (hG : Shp G) {u1 x1 : Int}
    (ex1 : (q_up c 18 2 u1) 18 2 = x1)
    (s1 : -2147483648 ≤ x1 ∧ x1 < 2147483648)
    (z2 : (x1 = (-1)) → Q (.inl (some (aI 0))) (G, (q_up c 18 2 u1)))
    (z3 : (¬ x1 = (-1)) → Q (.inl (some (aI 1))) (G, (q_up c 18 2 u1))) :
    T (d + 1) 67 41 [some (aR 119)] [aI u1, aR 18] (G, c) Q := by
  refine e_putI (show decode (mC 67) 41 = .ok (.putfield 144, 3) by decide +kernel) (show pl 7 144 = some (0, 8, 2, 0) by decide +kernel) (by decide) (sh_ok hG (by decide +kernel)) ?_
  refine e_L (L' := [some (aR 119)]) (st' := [aR 119]) (show decode (mC 67) 44 = .ok (.aload_n 0, 1) by decide +kernel) rfl (by show (if 119 = 0 then none else some (_, _)) = _; rw [if_neg (by decide)]) ?_
  refine e_getR (w := 18) (show decode (mC 67) 45 = .ok (.getfield 15, 3) by decide +kernel) (show pl 7 15 = some (0, 7, 1, 0) by decide +kernel) (by decide) (sh_ok hG (by decide +kernel)) (sh_rf hG (by decide +kernel)) ?_
  refine e_getIx (show decode (mC 67) 48 = .ok (.getfield 144, 3) by decide +kernel) (show pl 7 144 = some (0, 8, 2, 0) by decide +kernel) (by decide) (sh_ok hG (by decide +kernel)) ex1 ?_
  refine e_P (st' := [aI (-1), aI x1]) (show decode (mC 67) 51 = .ok (.iconst (-1), 1) by decide +kernel) rfl rfl rfl ?_
  refine e_eq2 (t := 59) (show decode (mC 67) 52 = .ok (.if_icmp .eq 7, 3) by decide +kernel) (by decide) s1 (by decide) (fun p1 => ?_) (fun p1 => ?_)
  · refine e_P (st' := [aI 0]) (show decode (mC 67) 59 = .ok (.iconst 0, 1) by decide +kernel) rfl rfl rfl ?_
    exact e_zret (show decode (mC 67) 60 = .ok (.ireturn, 1) by decide +kernel) rfl (by decide) (z2 p1)
  · refine e_P (st' := [aI 1]) (show decode (mC 67) 55 = .ok (.iconst 1, 1) by decide +kernel) rfl rfl rfl ?_
    refine e_go (t := 60) (show decode (mC 67) 56 = .ok (.goto 4, 3) by decide +kernel) (by decide) ?_
    exact e_zret (show decode (mC 67) 60 = .ok (.ireturn, 1) by decide +kernel) rfl (by decide) (z3 p1)
/-- SoulOffice$OfficeText.takeNewName()Z, from 0 -/
theorem b68_0 (hG : Shp G) {x1 x2 x3 : Int} (hQ : ∀ o o' h', q_eqo o o' → Q o h' → Q o' h')
    (ex1 : c 2 10 = x1)
    (s1 : -2147483648 ≤ x1 ∧ x1 < 2147483648)
    (ex2 : c 2 13 = x2)
    (ex3 : c 18 0 = x3)
    (m4 : (x1 = 1) → TM d 108 [aL x2, aR 19, aI x3] (G, c) (fun r h' => T (d + 1) 68 44 [some (aR 119)] (r.toList ++ []) h' Q))
    (m5 : (¬ x1 = 1) → TM d 99 [aR 2, aI 1] (G, c) (fun r h' => T (d + 1) 68 19 [none] (r.toList ++ []) h' Q)) :
    T (d + 1) 68 0 [some (aR 119)] [] (G, c) Q := by
  refine e_L (L' := [some (aR 119)]) (st' := [aR 119]) (show decode (mC 68) 0 = .ok (.aload_n 0, 1) by decide +kernel) rfl (by show (if 119 = 0 then none else some (_, _)) = _; rw [if_neg (by decide)]) ?_
  refine e_getR (w := 2) (show decode (mC 68) 1 = .ok (.getfield 9, 3) by decide +kernel) (show pl 7 9 = some (0, 7, 0, 0) by decide +kernel) (by decide) (sh_ok hG (by decide +kernel)) (sh_rf hG (by decide +kernel)) ?_
  refine e_getIx (show decode (mC 68) 4 = .ok (.getfield 30, 3) by decide +kernel) (show pl 7 30 = some (0, 10, 10, 0) by decide +kernel) (by decide) (sh_ok hG (by decide +kernel)) ex1 ?_
  refine e_P (st' := [aI 1, aI x1]) (show decode (mC 68) 7 = .ok (.iconst 1, 1) by decide +kernel) rfl rfl rfl ?_
  refine e_eq2 (t := 20) (show decode (mC 68) 8 = .ok (.if_icmp .eq 12, 3) by decide +kernel) (by decide) s1 (by decide) (fun p1 => ?_) (fun p1 => ?_)
  · refine e_L (L' := [some (aR 119)]) (st' := [aR 119]) (show decode (mC 68) 20 = .ok (.aload_n 0, 1) by decide +kernel) rfl (by show (if 119 = 0 then none else some (_, _)) = _; rw [if_neg (by decide)]) ?_
    refine e_getR (w := 2) (show decode (mC 68) 21 = .ok (.getfield 9, 3) by decide +kernel) (show pl 7 9 = some (0, 7, 0, 0) by decide +kernel) (by decide) (sh_ok hG (by decide +kernel)) (sh_rf hG (by decide +kernel)) ?_
    refine e_getLx (show decode (mC 68) 24 = .ok (.getfield 82, 3) by decide +kernel) (show pl 7 82 = some (0, 10, 13, 0) by decide +kernel) (by decide) (sh_ok hG (by decide +kernel)) ex2 ?_
    refine e_L (L' := [some (aR 119)]) (st' := [aR 119, aL x2]) (show decode (mC 68) 27 = .ok (.aload_n 0, 1) by decide +kernel) rfl (by show (if 119 = 0 then none else some (_, _)) = _; rw [if_neg (by decide)]) ?_
    refine e_getR (w := 18) (show decode (mC 68) 28 = .ok (.getfield 15, 3) by decide +kernel) (show pl 7 15 = some (0, 7, 1, 0) by decide +kernel) (by decide) (sh_ok hG (by decide +kernel)) (sh_rf hG (by decide +kernel)) ?_
    refine e_getR (w := 19) (show decode (mC 68) 31 = .ok (.getfield 97, 3) by decide +kernel) (show pl 7 97 = some (0, 8, 3, 0) by decide +kernel) (by decide) (sh_ok hG (by decide +kernel)) (sh_rf hG (by decide +kernel)) ?_
    refine e_L (L' := [some (aR 119)]) (st' := [aR 119, aR 19, aL x2]) (show decode (mC 68) 34 = .ok (.aload_n 0, 1) by decide +kernel) rfl (by show (if 119 = 0 then none else some (_, _)) = _; rw [if_neg (by decide)]) ?_
    refine e_getR (w := 18) (show decode (mC 68) 35 = .ok (.getfield 15, 3) by decide +kernel) (show pl 7 15 = some (0, 7, 1, 0) by decide +kernel) (by decide) (sh_ok hG (by decide +kernel)) (sh_rf hG (by decide +kernel)) ?_
    refine e_getIx (show decode (mC 68) 38 = .ok (.getfield 76, 3) by decide +kernel) (show pl 7 76 = some (0, 8, 0, 0) by decide +kernel) (by decide) (sh_ok hG (by decide +kernel)) ex3 ?_
    exact e_S (as := [aL x2, aR 19, aI x3]) (rest := []) (show decode (mC 68) 41 = .ok (.invokestatic 147, 3) by decide +kernel) (by decide +kernel) (show (decide ((3 : Nat) = mA 108) && decide (108 < q_law)) = true by decide +kernel) rfl (show (0 : Nat) ≤ 8 by decide) (show (4 : Nat) ≤ mL 108 by decide +kernel) (m4 p1)
  · refine e_L (L' := [some (aR 119)]) (st' := [aR 119]) (show decode (mC 68) 11 = .ok (.aload_n 0, 1) by decide +kernel) rfl (by show (if 119 = 0 then none else some (_, _)) = _; rw [if_neg (by decide)]) ?_
    refine e_getR (w := 2) (show decode (mC 68) 12 = .ok (.getfield 9, 3) by decide +kernel) (show pl 7 9 = some (0, 7, 0, 0) by decide +kernel) (by decide) (sh_ok hG (by decide +kernel)) (sh_rf hG (by decide +kernel)) ?_
    refine e_P (st' := [aI 1, aR 2]) (show decode (mC 68) 15 = .ok (.iconst 1, 1) by decide +kernel) rfl rfl rfl ?_
    exact e_V (as := [aR 2, aI 1]) (rest := []) (show decode (mC 68) 16 = .ok (.invokevirtual 48, 3) by decide +kernel) (by decide +kernel) (show (decide ((2 : Nat) = mA 99) && decide (99 < q_law)) = true by decide +kernel) rfl (show (0 : Nat) ≤ 8 by decide) (show (2 : Nat) ≤ mL 99 by decide +kernel) rfl (sh_ok hG (by decide +kernel)) (tm_le hQ (leN leE) (m5 p1))
/-- SoulOffice$OfficeText.takeNewName()Z, from 19 -/
theorem b68_19 (hG : Shp G) {u0 : Int}
    (s0 : u0 = 0 ∨ u0 = 1)
    (z1 : Q (.inl (some (aI u0))) (G, c)) :
    T (d + 1) 68 19 [none] [aI u0] (G, c) Q := by
  exact e_zret (show decode (mC 68) 19 = .ok (.ireturn, 1) by decide +kernel) rfl s0 z1
/-- SoulOffice$OfficeText.takeNewName()Z, from 44 -/
theorem b68_44 (hG : Shp G) {u0 x1 x2 : Int} (hQ : ∀ o o' h', q_eqo o o' → Q o h' → Q o' h')
    (s0 : -2147483648 ≤ u0 ∧ u0 < 2147483648)
    (m1 : (¬ u0 = (-1)) → TM d 99 [aR 2, aI 3] (G, c) (fun r h' => T (d + 1) 68 84 [none] (r.toList ++ []) h' Q))
    (ex1 : c 2 13 = x1)
    (ex2 : c 18 1 = x2)
    (m4 : (u0 = (-1)) → TM d 108 [aL x1, aR 20, aI x2] (G, c) (fun r h' => T (d + 1) 68 72 [some (aR 119)] (r.toList ++ []) h' Q)) :
    T (d + 1) 68 44 [some (aR 119)] [aI u0] (G, c) Q := by
  refine e_P (st' := [aI (-1), aI u0]) (show decode (mC 68) 44 = .ok (.iconst (-1), 1) by decide +kernel) rfl rfl rfl ?_
  refine e_ne2 (t := 76) (show decode (mC 68) 45 = .ok (.if_icmp .ne 31, 3) by decide +kernel) (by decide) s0 (by decide) (fun p1 => ?_) (fun p1 => ?_)
  · refine e_L (L' := [some (aR 119)]) (st' := [aR 119]) (show decode (mC 68) 76 = .ok (.aload_n 0, 1) by decide +kernel) rfl (by show (if 119 = 0 then none else some (_, _)) = _; rw [if_neg (by decide)]) ?_
    refine e_getR (w := 2) (show decode (mC 68) 77 = .ok (.getfield 9, 3) by decide +kernel) (show pl 7 9 = some (0, 7, 0, 0) by decide +kernel) (by decide) (sh_ok hG (by decide +kernel)) (sh_rf hG (by decide +kernel)) ?_
    refine e_P (st' := [aI 3, aR 2]) (show decode (mC 68) 80 = .ok (.iconst 3, 1) by decide +kernel) rfl rfl rfl ?_
    exact e_V (as := [aR 2, aI 3]) (rest := []) (show decode (mC 68) 81 = .ok (.invokevirtual 48, 3) by decide +kernel) (by decide +kernel) (show (decide ((2 : Nat) = mA 99) && decide (99 < q_law)) = true by decide +kernel) rfl (show (0 : Nat) ≤ 8 by decide) (show (2 : Nat) ≤ mL 99 by decide +kernel) rfl (sh_ok hG (by decide +kernel)) (tm_le hQ (leN leE) (m1 p1))
  · refine e_L (L' := [some (aR 119)]) (st' := [aR 119]) (show decode (mC 68) 48 = .ok (.aload_n 0, 1) by decide +kernel) rfl (by show (if 119 = 0 then none else some (_, _)) = _; rw [if_neg (by decide)]) ?_
    refine e_getR (w := 2) (show decode (mC 68) 49 = .ok (.getfield 9, 3) by decide +kernel) (show pl 7 9 = some (0, 7, 0, 0) by decide +kernel) (by decide) (sh_ok hG (by decide +kernel)) (sh_rf hG (by decide +kernel)) ?_
    refine e_getLx (show decode (mC 68) 52 = .ok (.getfield 82, 3) by decide +kernel) (show pl 7 82 = some (0, 10, 13, 0) by decide +kernel) (by decide) (sh_ok hG (by decide +kernel)) ex1 ?_
    refine e_L (L' := [some (aR 119)]) (st' := [aR 119, aL x1]) (show decode (mC 68) 55 = .ok (.aload_n 0, 1) by decide +kernel) rfl (by show (if 119 = 0 then none else some (_, _)) = _; rw [if_neg (by decide)]) ?_
    refine e_getR (w := 18) (show decode (mC 68) 56 = .ok (.getfield 15, 3) by decide +kernel) (show pl 7 15 = some (0, 7, 1, 0) by decide +kernel) (by decide) (sh_ok hG (by decide +kernel)) (sh_rf hG (by decide +kernel)) ?_
    refine e_getR (w := 20) (show decode (mC 68) 59 = .ok (.getfield 122, 3) by decide +kernel) (show pl 7 122 = some (0, 8, 4, 0) by decide +kernel) (by decide) (sh_ok hG (by decide +kernel)) (sh_rf hG (by decide +kernel)) ?_
    refine e_L (L' := [some (aR 119)]) (st' := [aR 119, aR 20, aL x1]) (show decode (mC 68) 62 = .ok (.aload_n 0, 1) by decide +kernel) rfl (by show (if 119 = 0 then none else some (_, _)) = _; rw [if_neg (by decide)]) ?_
    refine e_getR (w := 18) (show decode (mC 68) 63 = .ok (.getfield 15, 3) by decide +kernel) (show pl 7 15 = some (0, 7, 1, 0) by decide +kernel) (by decide) (sh_ok hG (by decide +kernel)) (sh_rf hG (by decide +kernel)) ?_
    refine e_getIx (show decode (mC 68) 66 = .ok (.getfield 115, 3) by decide +kernel) (show pl 7 115 = some (0, 8, 1, 0) by decide +kernel) (by decide) (sh_ok hG (by decide +kernel)) ex2 ?_
    exact e_S (as := [aL x1, aR 20, aI x2]) (rest := []) (show decode (mC 68) 69 = .ok (.invokestatic 147, 3) by decide +kernel) (by decide +kernel) (show (decide ((3 : Nat) = mA 108) && decide (108 < q_law)) = true by decide +kernel) rfl (show (0 : Nat) ≤ 8 by decide) (show (4 : Nat) ≤ mL 108 by decide +kernel) (m4 p1)
/-- SoulOffice$OfficeText.takeNewName()Z, from 72 -/
theorem b68_72 (hG : Shp G) {u0 : Int} (hQ : ∀ o o' h', q_eqo o o' → Q o h' → Q o' h')
    (s0 : -2147483648 ≤ u0 ∧ u0 < 2147483648)
    (m1 : (u0 = (-1)) → TM d 98 [aR 2] (G, c) (fun r h' => T (d + 1) 68 92 [none] (r.toList ++ []) h' Q))
    (m2 : (¬ u0 = (-1)) → TM d 99 [aR 2, aI 3] (G, c) (fun r h' => T (d + 1) 68 84 [none] (r.toList ++ []) h' Q)) :
    T (d + 1) 68 72 [some (aR 119)] [aI u0] (G, c) Q := by
  refine e_P (st' := [aI (-1), aI u0]) (show decode (mC 68) 72 = .ok (.iconst (-1), 1) by decide +kernel) rfl rfl rfl ?_
  refine e_eq2 (t := 85) (show decode (mC 68) 73 = .ok (.if_icmp .eq 12, 3) by decide +kernel) (by decide) s0 (by decide) (fun p1 => ?_) (fun p1 => ?_)
  · refine e_L (L' := [some (aR 119)]) (st' := [aR 119]) (show decode (mC 68) 85 = .ok (.aload_n 0, 1) by decide +kernel) rfl (by show (if 119 = 0 then none else some (_, _)) = _; rw [if_neg (by decide)]) ?_
    refine e_getR (w := 2) (show decode (mC 68) 86 = .ok (.getfield 9, 3) by decide +kernel) (show pl 7 9 = some (0, 7, 0, 0) by decide +kernel) (by decide) (sh_ok hG (by decide +kernel)) (sh_rf hG (by decide +kernel)) ?_
    exact e_V (as := [aR 2]) (rest := []) (show decode (mC 68) 89 = .ok (.invokevirtual 79, 3) by decide +kernel) (by decide +kernel) (show (decide ((1 : Nat) = mA 98) && decide (98 < q_law)) = true by decide +kernel) rfl (show (0 : Nat) ≤ 8 by decide) (show (1 : Nat) ≤ mL 98 by decide +kernel) rfl (sh_ok hG (by decide +kernel)) (tm_le hQ (leN leE) (m1 p1))
  · refine e_L (L' := [some (aR 119)]) (st' := [aR 119]) (show decode (mC 68) 76 = .ok (.aload_n 0, 1) by decide +kernel) rfl (by show (if 119 = 0 then none else some (_, _)) = _; rw [if_neg (by decide)]) ?_
    refine e_getR (w := 2) (show decode (mC 68) 77 = .ok (.getfield 9, 3) by decide +kernel) (show pl 7 9 = some (0, 7, 0, 0) by decide +kernel) (by decide) (sh_ok hG (by decide +kernel)) (sh_rf hG (by decide +kernel)) ?_
    refine e_P (st' := [aI 3, aR 2]) (show decode (mC 68) 80 = .ok (.iconst 3, 1) by decide +kernel) rfl rfl rfl ?_
    exact e_V (as := [aR 2, aI 3]) (rest := []) (show decode (mC 68) 81 = .ok (.invokevirtual 48, 3) by decide +kernel) (by decide +kernel) (show (decide ((2 : Nat) = mA 99) && decide (99 < q_law)) = true by decide +kernel) rfl (show (0 : Nat) ≤ 8 by decide) (show (2 : Nat) ≤ mL 99 by decide +kernel) rfl (sh_ok hG (by decide +kernel)) (tm_le hQ (leN leE) (m2 p1))
/-- SoulOffice$OfficeText.takeNewName()Z, from 84 -/
theorem b68_84 (hG : Shp G) {u0 : Int}
    (s0 : u0 = 0 ∨ u0 = 1)
    (z1 : Q (.inl (some (aI u0))) (G, c)) :
    T (d + 1) 68 84 [none] [aI u0] (G, c) Q := by
  exact e_zret (show decode (mC 68) 84 = .ok (.ireturn, 1) by decide +kernel) rfl s0 z1
/-- SoulOffice$OfficeText.takeNewName()Z, from 92 -/
theorem b68_92 (hG : Shp G)
    (z0 : Q (.inl (some (aI 1))) (G, c)) :
    T (d + 1) 68 92 [none] [] (G, c) Q := by
  refine e_P (st' := [aI 1]) (show decode (mC 68) 92 = .ok (.iconst 1, 1) by decide +kernel) rfl rfl rfl ?_
  exact e_zret (show decode (mC 68) 93 = .ok (.ireturn, 1) by decide +kernel) rfl (by decide) z0
end QB7
