section QB17
variable {d : Nat} {G : GG} {c : CC} {Q : OO → HH → Prop}
/-- SoulOffice.feed(IIIII)I, from 0 -/
theorem b110_0 (hG : Shp G) {v1 v2 v3 v4 v5 x1 : Int} (hQ : ∀ o o' h', q_eqo o o' → Q o h' → Q o' h')
    (ex1 : c 2 1 = x1)
    (s1 : -2147483648 ≤ x1 ∧ x1 < 2147483648)
    (m2 : (x1 ≤ 920) → TM d 94 [aR 2, aI v1] (G, c) (fun r h' => T (d + 1) 110 23 [some (aR 1), none, some (aI v2), some (aI v3), some (aI v4), some (aI v5)] (r.toList ++ []) h' Q))
    (z3 : (920 < x1) → Q (.inl (some (aI (-1)))) (G, c)) :
    T (d + 1) 110 0 [some (aR 1), some (aI v1), some (aI v2), some (aI v3), some (aI v4), some (aI v5)] [] (G, c) Q := by
  refine e_L (L' := [some (aR 1), some (aI v1), some (aI v2), some (aI v3), some (aI v4), some (aI v5)]) (st' := [aR 1]) (show decode (mC 110) 0 = .ok (.aload_n 0, 1) by decide +kernel) rfl (by show (if 1 = 0 then none else some (_, _)) = _; rw [if_neg (by decide)]) ?_
  refine e_getR (w := 2) (show decode (mC 110) 1 = .ok (.getfield 21, 3) by decide +kernel) (show pl 11 21 = some (0, 11, 0, 0) by decide +kernel) (by decide) (sh_ok hG (by decide +kernel)) (sh_rf hG (by decide +kernel)) ?_
  refine e_getIx (show decode (mC 110) 4 = .ok (.getfield 108, 3) by decide +kernel) (show pl 11 108 = some (0, 10, 1, 0) by decide +kernel) (by decide) (sh_ok hG (by decide +kernel)) ex1 ?_
  refine e_P (st' := [aI 920, aI x1]) (show decode (mC 110) 7 = .ok (.sipush 920, 3) by decide +kernel) rfl rfl rfl ?_
  refine e_le2 (t := 15) (show decode (mC 110) 10 = .ok (.if_icmp .le 5, 3) by decide +kernel) (by decide) s1 (by decide) (fun p1 => ?_) (fun p1 => ?_)
  · refine e_L (L' := [some (aR 1), some (aI v1), some (aI v2), some (aI v3), some (aI v4), some (aI v5)]) (st' := [aR 1]) (show decode (mC 110) 15 = .ok (.aload_n 0, 1) by decide +kernel) rfl (by show (if 1 = 0 then none else some (_, _)) = _; rw [if_neg (by decide)]) ?_
    refine e_getR (w := 2) (show decode (mC 110) 16 = .ok (.getfield 21, 3) by decide +kernel) (show pl 11 21 = some (0, 11, 0, 0) by decide +kernel) (by decide) (sh_ok hG (by decide +kernel)) (sh_rf hG (by decide +kernel)) ?_
    refine e_L (L' := [some (aR 1), some (aI v1), some (aI v2), some (aI v3), some (aI v4), some (aI v5)]) (st' := [aI v1, aR 2]) (show decode (mC 110) 19 = .ok (.iload_n 1, 1) by decide +kernel) rfl rfl ?_
    exact e_V (as := [aR 2, aI v1]) (rest := []) (show decode (mC 110) 20 = .ok (.invokevirtual 112, 3) by decide +kernel) (by decide +kernel) (show (decide ((2 : Nat) = mA 94) && decide (94 < q_law)) = true by decide +kernel) rfl (show (0 : Nat) ≤ 8 by decide) (show (2 : Nat) ≤ mL 94 by decide +kernel) rfl (sh_ok hG (by decide +kernel)) (tm_le hQ (leS (leN (leS (leS (leS (leS leE)))))) (m2 p1))
  · refine e_P (st' := [aI (-1)]) (show decode (mC 110) 13 = .ok (.iconst (-1), 1) by decide +kernel) rfl rfl rfl ?_
    exact e_iret (show decode (mC 110) 14 = .ok (.ireturn, 1) by decide +kernel) rfl (z3 p1)
/-- SoulOffice.feed(IIIII)I, from 23 -/
theorem b110_23 (hG : Shp G) {v2 v3 v4 v5 : Int} (hQ : ∀ o o' h', q_eqo o o' → Q o h' → Q o' h')
    (m0 : TM d 94 [aR 2, aI v2] (G, c) (fun r h' => T (d + 1) 110 31 [some (aR 1), none, none, some (aI v3), some (aI v4), some (aI v5)] (r.toList ++ []) h' Q)) :
    T (d + 1) 110 23 [some (aR 1), none, some (aI v2), some (aI v3), some (aI v4), some (aI v5)] [] (G, c) Q := by
  refine e_L (L' := [some (aR 1), none, some (aI v2), some (aI v3), some (aI v4), some (aI v5)]) (st' := [aR 1]) (show decode (mC 110) 23 = .ok (.aload_n 0, 1) by decide +kernel) rfl (by show (if 1 = 0 then none else some (_, _)) = _; rw [if_neg (by decide)]) ?_
  refine e_getR (w := 2) (show decode (mC 110) 24 = .ok (.getfield 21, 3) by decide +kernel) (show pl 11 21 = some (0, 11, 0, 0) by decide +kernel) (by decide) (sh_ok hG (by decide +kernel)) (sh_rf hG (by decide +kernel)) ?_
  refine e_L (L' := [some (aR 1), none, some (aI v2), some (aI v3), some (aI v4), some (aI v5)]) (st' := [aI v2, aR 2]) (show decode (mC 110) 27 = .ok (.iload_n 2, 1) by decide +kernel) rfl rfl ?_
  exact e_V (as := [aR 2, aI v2]) (rest := []) (show decode (mC 110) 28 = .ok (.invokevirtual 112, 3) by decide +kernel) (by decide +kernel) (show (decide ((2 : Nat) = mA 94) && decide (94 < q_law)) = true by decide +kernel) rfl (show (0 : Nat) ≤ 8 by decide) (show (2 : Nat) ≤ mL 94 by decide +kernel) rfl (sh_ok hG (by decide +kernel)) (tm_le hQ (leS (leS (leN (leS (leS (leS leE)))))) m0)
/-- SoulOffice.feed(IIIII)I, from 31 -/
theorem b110_31 (hG : Shp G) {v3 v4 v5 : Int} (hQ : ∀ o o' h', q_eqo o o' → Q o h' → Q o' h')
    (m0 : TM d 94 [aR 2, aI v3] (G, c) (fun r h' => T (d + 1) 110 39 [some (aR 1), none, none, none, some (aI v4), some (aI v5)] (r.toList ++ []) h' Q)) :
    T (d + 1) 110 31 [some (aR 1), none, none, some (aI v3), some (aI v4), some (aI v5)] [] (G, c) Q := by
  refine e_L (L' := [some (aR 1), none, none, some (aI v3), some (aI v4), some (aI v5)]) (st' := [aR 1]) (show decode (mC 110) 31 = .ok (.aload_n 0, 1) by decide +kernel) rfl (by show (if 1 = 0 then none else some (_, _)) = _; rw [if_neg (by decide)]) ?_
  refine e_getR (w := 2) (show decode (mC 110) 32 = .ok (.getfield 21, 3) by decide +kernel) (show pl 11 21 = some (0, 11, 0, 0) by decide +kernel) (by decide) (sh_ok hG (by decide +kernel)) (sh_rf hG (by decide +kernel)) ?_
  refine e_L (L' := [some (aR 1), none, none, some (aI v3), some (aI v4), some (aI v5)]) (st' := [aI v3, aR 2]) (show decode (mC 110) 35 = .ok (.iload_n 3, 1) by decide +kernel) rfl rfl ?_
  exact e_V (as := [aR 2, aI v3]) (rest := []) (show decode (mC 110) 36 = .ok (.invokevirtual 112, 3) by decide +kernel) (by decide +kernel) (show (decide ((2 : Nat) = mA 94) && decide (94 < q_law)) = true by decide +kernel) rfl (show (0 : Nat) ≤ 8 by decide) (show (2 : Nat) ≤ mL 94 by decide +kernel) rfl (sh_ok hG (by decide +kernel)) (tm_le hQ (leS (leS (leS (leN (leS (leS leE)))))) m0)
/-- SoulOffice.feed(IIIII)I, from 39 -/
theorem b110_39 (hG : Shp G) {v4 v5 : Int} (hQ : ∀ o o' h', q_eqo o o' → Q o h' → Q o' h')
    (m0 : TM d 94 [aR 2, aI v4] (G, c) (fun r h' => T (d + 1) 110 48 [some (aR 1), none, none, none, none, some (aI v5)] (r.toList ++ []) h' Q)) :
    T (d + 1) 110 39 [some (aR 1), none, none, none, some (aI v4), some (aI v5)] [] (G, c) Q := by
  refine e_L (L' := [some (aR 1), none, none, none, some (aI v4), some (aI v5)]) (st' := [aR 1]) (show decode (mC 110) 39 = .ok (.aload_n 0, 1) by decide +kernel) rfl (by show (if 1 = 0 then none else some (_, _)) = _; rw [if_neg (by decide)]) ?_
  refine e_getR (w := 2) (show decode (mC 110) 40 = .ok (.getfield 21, 3) by decide +kernel) (show pl 11 21 = some (0, 11, 0, 0) by decide +kernel) (by decide) (sh_ok hG (by decide +kernel)) (sh_rf hG (by decide +kernel)) ?_
  refine e_L (L' := [some (aR 1), none, none, none, some (aI v4), some (aI v5)]) (st' := [aI v4, aR 2]) (show decode (mC 110) 43 = .ok (.iload 4, 2) by decide +kernel) rfl rfl ?_
  exact e_V (as := [aR 2, aI v4]) (rest := []) (show decode (mC 110) 45 = .ok (.invokevirtual 112, 3) by decide +kernel) (by decide +kernel) (show (decide ((2 : Nat) = mA 94) && decide (94 < q_law)) = true by decide +kernel) rfl (show (0 : Nat) ≤ 8 by decide) (show (2 : Nat) ≤ mL 94 by decide +kernel) rfl (sh_ok hG (by decide +kernel)) (tm_le hQ (leS (leS (leS (leS (leN (leS leE)))))) m0)
/-- SoulOffice.feed(IIIII)I, from 48 -/
theorem b110_48 (hG : Shp G) {v5 : Int} (hQ : ∀ o o' h', q_eqo o o' → Q o h' → Q o' h')
    (m0 : TM d 94 [aR 2, aI v5] (G, c) (fun r h' => T (d + 1) 110 57 [some (aR 1), none, none, none, none, none] (r.toList ++ []) h' Q)) :
    T (d + 1) 110 48 [some (aR 1), none, none, none, none, some (aI v5)] [] (G, c) Q := by
  refine e_L (L' := [some (aR 1), none, none, none, none, some (aI v5)]) (st' := [aR 1]) (show decode (mC 110) 48 = .ok (.aload_n 0, 1) by decide +kernel) rfl (by show (if 1 = 0 then none else some (_, _)) = _; rw [if_neg (by decide)]) ?_
  refine e_getR (w := 2) (show decode (mC 110) 49 = .ok (.getfield 21, 3) by decide +kernel) (show pl 11 21 = some (0, 11, 0, 0) by decide +kernel) (by decide) (sh_ok hG (by decide +kernel)) (sh_rf hG (by decide +kernel)) ?_
  refine e_L (L' := [some (aR 1), none, none, none, none, some (aI v5)]) (st' := [aI v5, aR 2]) (show decode (mC 110) 52 = .ok (.iload 5, 2) by decide +kernel) rfl rfl ?_
  exact e_V (as := [aR 2, aI v5]) (rest := []) (show decode (mC 110) 54 = .ok (.invokevirtual 112, 3) by decide +kernel) (by decide +kernel) (show (decide ((2 : Nat) = mA 94) && decide (94 < q_law)) = true by decide +kernel) rfl (show (0 : Nat) ≤ 8 by decide) (show (2 : Nat) ≤ mL 94 by decide +kernel) rfl (sh_ok hG (by decide +kernel)) (tm_le hQ (leS (leS (leS (leS (leS (leN leE)))))) m0)
/-- SoulOffice.feed(IIIII)I, from 57 -/
theorem b110_57 (hG : Shp G) {x1 : Int}
    (ex1 : c 2 1 = x1)
    (z1 : Q (.inl (some (aI x1))) (G, c)) :
    T (d + 1) 110 57 [some (aR 1), none, none, none, none, none] [] (G, c) Q := by
  refine e_L (L' := [some (aR 1), none, none, none, none, none]) (st' := [aR 1]) (show decode (mC 110) 57 = .ok (.aload_n 0, 1) by decide +kernel) rfl (by show (if 1 = 0 then none else some (_, _)) = _; rw [if_neg (by decide)]) ?_
  refine e_getR (w := 2) (show decode (mC 110) 58 = .ok (.getfield 21, 3) by decide +kernel) (show pl 11 21 = some (0, 11, 0, 0) by decide +kernel) (by decide) (sh_ok hG (by decide +kernel)) (sh_rf hG (by decide +kernel)) ?_
  refine e_getIx (show decode (mC 110) 61 = .ok (.getfield 108, 3) by decide +kernel) (show pl 11 108 = some (0, 10, 1, 0) by decide +kernel) (by decide) (sh_ok hG (by decide +kernel)) ex1 ?_
  exact e_iret (show decode (mC 110) 64 = .ok (.ireturn, 1) by decide +kernel) rfl z1
/-- SoulOffice.end(I)Z, from 0 -/
theorem b111_0 (hG : Shp G) {v1 x1 : Int}
    (s0 : -2147483648 ≤ v1 ∧ v1 < 2147483648)
    (z1 : (v1 < 0) → Q (.inl (some (aI 0))) (G, c))
    (ex1 : c 2 1 = x1)
    (s3 : (0 ≤ v1) → -2147483648 ≤ x1 ∧ x1 < 2147483648)
    (z4 : (0 ≤ v1) → (v1 ≤ x1) → Q (.inl (some (aI 1))) (G, (q_up c 2 1 v1)))
    (z5 : (0 ≤ v1) → (x1 < v1) → Q (.inl (some (aI 0))) (G, c)) :
    T d 111 0 [some (aR 1), some (aI v1)] [] (G, c) Q := by
  refine e_L (L' := [some (aR 1), some (aI v1)]) (st' := [aI v1]) (show decode (mC 111) 0 = .ok (.iload_n 1, 1) by decide +kernel) rfl rfl ?_
  refine e_lt1 (t := 15) (show decode (mC 111) 1 = .ok (.ifCond .lt 14, 3) by decide +kernel) (by decide) s0 (fun p1 => ?_) (fun p1 => ?_)
  · refine e_P (st' := [aI 0]) (show decode (mC 111) 15 = .ok (.iconst 0, 1) by decide +kernel) rfl rfl rfl ?_
    exact e_zret (show decode (mC 111) 16 = .ok (.ireturn, 1) by decide +kernel) rfl (by decide) (z1 p1)
  · refine e_L (L' := [some (aR 1), some (aI v1)]) (st' := [aI v1]) (show decode (mC 111) 4 = .ok (.iload_n 1, 1) by decide +kernel) rfl rfl ?_
    refine e_L (L' := [some (aR 1), some (aI v1)]) (st' := [aR 1, aI v1]) (show decode (mC 111) 5 = .ok (.aload_n 0, 1) by decide +kernel) rfl (by show (if 1 = 0 then none else some (_, _)) = _; rw [if_neg (by decide)]) ?_
    refine e_getR (w := 2) (show decode (mC 111) 6 = .ok (.getfield 21, 3) by decide +kernel) (show pl 11 21 = some (0, 11, 0, 0) by decide +kernel) (by decide) (sh_ok hG (by decide +kernel)) (sh_rf hG (by decide +kernel)) ?_
    refine e_getIx (show decode (mC 111) 9 = .ok (.getfield 108, 3) by decide +kernel) (show pl 11 108 = some (0, 10, 1, 0) by decide +kernel) (by decide) (sh_ok hG (by decide +kernel)) ex1 ?_
    refine e_le2 (t := 17) (show decode (mC 111) 12 = .ok (.if_icmp .le 5, 3) by decide +kernel) (by decide) s0 (s3 p1) (fun p2 => ?_) (fun p2 => ?_)
    · refine e_L (L' := [some (aR 1), some (aI v1)]) (st' := [aR 1]) (show decode (mC 111) 17 = .ok (.aload_n 0, 1) by decide +kernel) rfl (by show (if 1 = 0 then none else some (_, _)) = _; rw [if_neg (by decide)]) ?_
      refine e_getR (w := 2) (show decode (mC 111) 18 = .ok (.getfield 21, 3) by decide +kernel) (show pl 11 21 = some (0, 11, 0, 0) by decide +kernel) (by decide) (sh_ok hG (by decide +kernel)) (sh_rf hG (by decide +kernel)) ?_
      refine e_L (L' := [some (aR 1), some (aI v1)]) (st' := [aI v1, aR 2]) (show decode (mC 111) 21 = .ok (.iload_n 1, 1) by decide +kernel) rfl rfl ?_
      refine e_putI (show decode (mC 111) 22 = .ok (.putfield 108, 3) by decide +kernel) (show pl 11 108 = some (0, 10, 1, 0) by decide +kernel) (by decide) (sh_ok hG (by decide +kernel)) ?_
      refine e_P (st' := [aI 1]) (show decode (mC 111) 25 = .ok (.iconst 1, 1) by decide +kernel) rfl rfl rfl ?_
      exact e_zret (show decode (mC 111) 26 = .ok (.ireturn, 1) by decide +kernel) rfl (by decide) (z4 p1 p2)
    · refine e_P (st' := [aI 0]) (show decode (mC 111) 15 = .ok (.iconst 0, 1) by decide +kernel) rfl rfl rfl ?_
      exact e_zret (show decode (mC 111) 16 = .ok (.ireturn, 1) by decide +kernel) rfl (by decide) (z5 p1 p2)
/-- SoulOffice.office()I, from 0 -/
theorem b112_0 (hG : Shp G)
    (m0 : TM d 59 [aR 119] (G, c) (fun r h' => T (d + 1) 112 7 [some (aR 1), none] (r.toList ++ []) h' Q)) :
    T (d + 1) 112 0 [some (aR 1), none] [] (G, c) Q := by
  refine e_L (L' := [some (aR 1), none]) (st' := [aR 1]) (show decode (mC 112) 0 = .ok (.aload_n 0, 1) by decide +kernel) rfl (by show (if 1 = 0 then none else some (_, _)) = _; rw [if_neg (by decide)]) ?_
  refine e_getR (w := 119) (show decode (mC 112) 1 = .ok (.getfield 63, 3) by decide +kernel) (show pl 11 63 = some (0, 11, 9, 0) by decide +kernel) (by decide) (sh_ok hG (by decide +kernel)) (sh_rf hG (by decide +kernel)) ?_
  exact e_V (as := [aR 119]) (rest := []) (show decode (mC 112) 4 = .ok (.invokevirtual 116, 3) by decide +kernel) (by decide +kernel) (show (decide ((1 : Nat) = mA 59) && decide (59 < q_law)) = true by decide +kernel) rfl (show (0 : Nat) ≤ 8 by decide) (show (1 : Nat) ≤ mL 59 by decide +kernel) rfl (sh_ok hG (by decide +kernel)) m0
/-- SoulOffice.office()I, from 7 -/
theorem b112_7 (hG : Shp G) {u0 x1 : Int}
    (s0 : -2147483648 ≤ u0 ∧ u0 < 2147483648)
    (m1 : (¬ u0 = (-1)) → TM d 78 [aR 9, aR 18] (G, (q_up c 2 1 0)) (fun r h' => T (d + 1) 112 42 [some (aR 1), some (aI u0)] (r.toList ++ []) h' Q))
    (ex1 : (q_up c 2 1 0) 2 11 = x1)
    (z3 : (u0 = (-1)) → Q (.inl (some (aI ((-1) - x1)))) (G, (q_up c 2 1 0))) :
    T (d + 1) 112 7 [some (aR 1), none] [aI u0] (G, c) Q := by
  refine e_L (L' := [some (aR 1), some (aI u0)]) (st' := []) (show decode (mC 112) 7 = .ok (.istore_n 1, 1) by decide +kernel) rfl rfl ?_
  refine e_L (L' := [some (aR 1), some (aI u0)]) (st' := [aR 1]) (show decode (mC 112) 8 = .ok (.aload_n 0, 1) by decide +kernel) rfl (by show (if 1 = 0 then none else some (_, _)) = _; rw [if_neg (by decide)]) ?_
  refine e_getR (w := 2) (show decode (mC 112) 9 = .ok (.getfield 21, 3) by decide +kernel) (show pl 11 21 = some (0, 11, 0, 0) by decide +kernel) (by decide) (sh_ok hG (by decide +kernel)) (sh_rf hG (by decide +kernel)) ?_
  refine e_P (st' := [aI 0, aR 2]) (show decode (mC 112) 12 = .ok (.iconst 0, 1) by decide +kernel) rfl rfl rfl ?_
  refine e_putI (show decode (mC 112) 13 = .ok (.putfield 108, 3) by decide +kernel) (show pl 11 108 = some (0, 10, 1, 0) by decide +kernel) (by decide) (sh_ok hG (by decide +kernel)) ?_
  refine e_L (L' := [some (aR 1), some (aI u0)]) (st' := [aI u0]) (show decode (mC 112) 16 = .ok (.iload_n 1, 1) by decide +kernel) rfl rfl ?_
  refine e_P (st' := [aI (-1), aI u0]) (show decode (mC 112) 17 = .ok (.iconst (-1), 1) by decide +kernel) rfl rfl rfl ?_
  refine e_ne2 (t := 31) (show decode (mC 112) 18 = .ok (.if_icmp .ne 13, 3) by decide +kernel) (by decide) s0 (by decide) (fun p1 => ?_) (fun p1 => ?_)
  · refine e_L (L' := [some (aR 1), some (aI u0)]) (st' := [aR 1]) (show decode (mC 112) 31 = .ok (.aload_n 0, 1) by decide +kernel) rfl (by show (if 1 = 0 then none else some (_, _)) = _; rw [if_neg (by decide)]) ?_
    refine e_getR (w := 9) (show decode (mC 112) 32 = .ok (.getfield 27, 3) by decide +kernel) (show pl 11 27 = some (0, 11, 1, 0) by decide +kernel) (by decide) (sh_ok hG (by decide +kernel)) (sh_rf hG (by decide +kernel)) ?_
    refine e_L (L' := [some (aR 1), some (aI u0)]) (st' := [aR 1, aR 9]) (show decode (mC 112) 35 = .ok (.aload_n 0, 1) by decide +kernel) rfl (by show (if 1 = 0 then none else some (_, _)) = _; rw [if_neg (by decide)]) ?_
    refine e_getR (w := 18) (show decode (mC 112) 36 = .ok (.getfield 31, 3) by decide +kernel) (show pl 11 31 = some (0, 11, 2, 0) by decide +kernel) (by decide) (sh_ok hG (by decide +kernel)) (sh_rf hG (by decide +kernel)) ?_
    exact e_V (as := [aR 9, aR 18]) (rest := []) (show decode (mC 112) 39 = .ok (.invokevirtual 123, 3) by decide +kernel) (by decide +kernel) (show (decide ((2 : Nat) = mA 78) && decide (78 < q_law)) = true by decide +kernel) rfl (show (0 : Nat) ≤ 8 by decide) (show (2 : Nat) ≤ mL 78 by decide +kernel) rfl (sh_ok hG (by decide +kernel)) (m1 p1)
  · refine e_P (st' := [aI (-1)]) (show decode (mC 112) 21 = .ok (.iconst (-1), 1) by decide +kernel) rfl rfl rfl ?_
    refine e_L (L' := [some (aR 1), some (aI u0)]) (st' := [aR 1, aI (-1)]) (show decode (mC 112) 22 = .ok (.aload_n 0, 1) by decide +kernel) rfl (by show (if 1 = 0 then none else some (_, _)) = _; rw [if_neg (by decide)]) ?_
    refine e_getR (w := 2) (show decode (mC 112) 23 = .ok (.getfield 21, 3) by decide +kernel) (show pl 11 21 = some (0, 11, 0, 0) by decide +kernel) (by decide) (sh_ok hG (by decide +kernel)) (sh_rf hG (by decide +kernel)) ?_
    refine e_getIx (show decode (mC 112) 26 = .ok (.getfield 120, 3) by decide +kernel) (show pl 11 120 = some (0, 10, 11, 0) by decide +kernel) (by decide) (sh_ok hG (by decide +kernel)) ex1 ?_
    refine e_P (st' := [aI ((-1) - x1)]) (show decode (mC 112) 29 = .ok (.isub, 1) by decide +kernel) rfl rfl rfl ?_
    exact e_iret (show decode (mC 112) 30 = .ok (.ireturn, 1) by decide +kernel) rfl (z3 p1)
/-- SoulOffice.office()I, from 42 -/
theorem b112_42 (hG : Shp G) {v1 : Int}
    (m0 : TM d 20 [aR 27] (G, c) (fun r h' => T (d + 1) 112 49 [some (aR 1), some (aI v1)] (r.toList ++ []) h' Q)) :
    T (d + 1) 112 42 [some (aR 1), some (aI v1)] [] (G, c) Q := by
  refine e_L (L' := [some (aR 1), some (aI v1)]) (st' := [aR 1]) (show decode (mC 112) 42 = .ok (.aload_n 0, 1) by decide +kernel) rfl (by show (if 1 = 0 then none else some (_, _)) = _; rw [if_neg (by decide)]) ?_
  refine e_getR (w := 27) (show decode (mC 112) 43 = .ok (.getfield 34, 3) by decide +kernel) (show pl 11 34 = some (0, 11, 3, 0) by decide +kernel) (by decide) (sh_ok hG (by decide +kernel)) (sh_rf hG (by decide +kernel)) ?_
  exact e_V (as := [aR 27]) (rest := []) (show decode (mC 112) 46 = .ok (.invokevirtual 18, 3) by decide +kernel) (by decide +kernel) (show (decide ((1 : Nat) = mA 20) && decide (20 < q_law)) = true by decide +kernel) rfl (show (0 : Nat) ≤ 8 by decide) (show (1 : Nat) ≤ mL 20 by decide +kernel) rfl (sh_ok hG (by decide +kernel)) m0
/-- SoulOffice.office()I, from 49 -/
theorem b112_49 (hG : Shp G) {v1 : Int}
    (m0 : TM d 80 [aR 43] (G, c) (fun r h' => T (d + 1) 112 56 [some (aR 1), some (aI v1)] (r.toList ++ []) h' Q)) :
    T (d + 1) 112 49 [some (aR 1), some (aI v1)] [] (G, c) Q := by
  refine e_L (L' := [some (aR 1), some (aI v1)]) (st' := [aR 1]) (show decode (mC 112) 49 = .ok (.aload_n 0, 1) by decide +kernel) rfl (by show (if 1 = 0 then none else some (_, _)) = _; rw [if_neg (by decide)]) ?_
  refine e_getR (w := 43) (show decode (mC 112) 50 = .ok (.getfield 46, 3) by decide +kernel) (show pl 11 46 = some (0, 11, 5, 0) by decide +kernel) (by decide) (sh_ok hG (by decide +kernel)) (sh_rf hG (by decide +kernel)) ?_
  exact e_V (as := [aR 43]) (rest := []) (show decode (mC 112) 53 = .ok (.invokevirtual 126, 3) by decide +kernel) (by decide +kernel) (show (decide ((1 : Nat) = mA 80) && decide (80 < q_law)) = true by decide +kernel) rfl (show (0 : Nat) ≤ 8 by decide) (show (1 : Nat) ≤ mL 80 by decide +kernel) rfl (sh_ok hG (by decide +kernel)) m0
/-- SoulOffice.office()I, from 56 -/
theorem b112_56 (hG : Shp G) {v1 : Int} (hQ : ∀ o o' h', q_eqo o o' → Q o h' → Q o' h')
    (m0 : TM d 13 [aR 53] (G, c) (fun r h' => T (d + 1) 112 63 [none, some (aI v1)] (r.toList ++ []) h' Q)) :
    T (d + 1) 112 56 [some (aR 1), some (aI v1)] [] (G, c) Q := by
  refine e_L (L' := [some (aR 1), some (aI v1)]) (st' := [aR 1]) (show decode (mC 112) 56 = .ok (.aload_n 0, 1) by decide +kernel) rfl (by show (if 1 = 0 then none else some (_, _)) = _; rw [if_neg (by decide)]) ?_
  refine e_getR (w := 53) (show decode (mC 112) 57 = .ok (.getfield 56, 3) by decide +kernel) (show pl 11 56 = some (0, 11, 7, 0) by decide +kernel) (by decide) (sh_ok hG (by decide +kernel)) (sh_rf hG (by decide +kernel)) ?_
  exact e_V (as := [aR 53]) (rest := []) (show decode (mC 112) 60 = .ok (.invokevirtual 129, 3) by decide +kernel) (by decide +kernel) (show (decide ((1 : Nat) = mA 13) && decide (13 < q_law)) = true by decide +kernel) rfl (show (0 : Nat) ≤ 8 by decide) (show (1 : Nat) ≤ mL 13 by decide +kernel) rfl (sh_ok hG (by decide +kernel)) (tm_le hQ (leN (leS leE)) m0)
/-- SoulOffice.office()I, from 63 -/
theorem b112_63 (hG : Shp G) {v1 : Int}
    (z0 : Q (.inl (some (aI v1))) (G, c)) :
    T (d + 1) 112 63 [none, some (aI v1)] [] (G, c) Q := by
  refine e_L (L' := [none, some (aI v1)]) (st' := [aI v1]) (show decode (mC 112) 63 = .ok (.iload_n 1, 1) by decide +kernel) rfl rfl ?_
  exact e_iret (show decode (mC 112) 64 = .ok (.ireturn, 1) by decide +kernel) rfl z0
/-- SoulOffice.fault()I, from 0 -/
theorem b113_0 (hG : Shp G) {x1 : Int}
    (ex1 : c 2 14 = x1)
    (z1 : Q (.inl (some (aI x1))) (G, c)) :
    T d 113 0 [some (aR 1)] [] (G, c) Q := by
  refine e_L (L' := [some (aR 1)]) (st' := [aR 1]) (show decode (mC 113) 0 = .ok (.aload_n 0, 1) by decide +kernel) rfl (by show (if 1 = 0 then none else some (_, _)) = _; rw [if_neg (by decide)]) ?_
  refine e_getR (w := 2) (show decode (mC 113) 1 = .ok (.getfield 21, 3) by decide +kernel) (show pl 11 21 = some (0, 11, 0, 0) by decide +kernel) (by decide) (sh_ok hG (by decide +kernel)) (sh_rf hG (by decide +kernel)) ?_
  refine e_getIx (show decode (mC 113) 4 = .ok (.getfield 130, 3) by decide +kernel) (show pl 11 130 = some (0, 10, 14, 0) by decide +kernel) (by decide) (sh_ok hG (by decide +kernel)) ex1 ?_
  exact e_iret (show decode (mC 113) 7 = .ok (.ireturn, 1) by decide +kernel) rfl z1
/-- SoulOffice.daybook(I)I, from 0 -/
theorem b114_0 (hG : Shp G) {v1 : Int}
    (s0 : -2147483648 ≤ v1 ∧ v1 < 2147483648)
    (m1 : (v1 = 0) → TM d 8 [aR 120] (G, c) (fun r h' => T (d + 1) 114 20 [some (aR 1), some (aI v1), none] (r.toList ++ []) h' Q))
    (m2 : (¬ v1 = 0) → (v1 = 1) → TM d 8 [aR 120] (G, c) (fun r h' => T (d + 1) 114 20 [some (aR 1), some (aI v1), none] (r.toList ++ []) h' Q))
    (z3 : (¬ v1 = 0) → (¬ v1 = 1) → Q (.inl (some (aI (-1000)))) (G, c)) :
    T (d + 1) 114 0 [some (aR 1), some (aI v1), none] [] (G, c) Q := by
  refine e_L (L' := [some (aR 1), some (aI v1), none]) (st' := [aI v1]) (show decode (mC 114) 0 = .ok (.iload_n 1, 1) by decide +kernel) rfl rfl ?_
  refine e_eq1 (t := 13) (show decode (mC 114) 1 = .ok (.ifCond .eq 12, 3) by decide +kernel) (by decide) s0 (fun p1 => ?_) (fun p1 => ?_)
  · refine e_L (L' := [some (aR 1), some (aI v1), none]) (st' := [aR 1]) (show decode (mC 114) 13 = .ok (.aload_n 0, 1) by decide +kernel) rfl (by show (if 1 = 0 then none else some (_, _)) = _; rw [if_neg (by decide)]) ?_
    refine e_getR (w := 120) (show decode (mC 114) 14 = .ok (.getfield 70, 3) by decide +kernel) (show pl 11 70 = some (0, 11, 10, 0) by decide +kernel) (by decide) (sh_ok hG (by decide +kernel)) (sh_rf hG (by decide +kernel)) ?_
    exact e_V (as := [aR 120]) (rest := []) (show decode (mC 114) 17 = .ok (.invokevirtual 133, 3) by decide +kernel) (by decide +kernel) (show (decide ((1 : Nat) = mA 8) && decide (8 < q_law)) = true by decide +kernel) rfl (show (0 : Nat) ≤ 8 by decide) (show (1 : Nat) ≤ mL 8 by decide +kernel) rfl (sh_ok hG (by decide +kernel)) (m1 p1)
  · refine e_L (L' := [some (aR 1), some (aI v1), none]) (st' := [aI v1]) (show decode (mC 114) 4 = .ok (.iload_n 1, 1) by decide +kernel) rfl rfl ?_
    refine e_P (st' := [aI 1, aI v1]) (show decode (mC 114) 5 = .ok (.iconst 1, 1) by decide +kernel) rfl rfl rfl ?_
    refine e_eq2 (t := 13) (show decode (mC 114) 6 = .ok (.if_icmp .eq 7, 3) by decide +kernel) (by decide) s0 (by decide) (fun p2 => ?_) (fun p2 => ?_)
    · refine e_L (L' := [some (aR 1), some (aI v1), none]) (st' := [aR 1]) (show decode (mC 114) 13 = .ok (.aload_n 0, 1) by decide +kernel) rfl (by show (if 1 = 0 then none else some (_, _)) = _; rw [if_neg (by decide)]) ?_
      refine e_getR (w := 120) (show decode (mC 114) 14 = .ok (.getfield 70, 3) by decide +kernel) (show pl 11 70 = some (0, 11, 10, 0) by decide +kernel) (by decide) (sh_ok hG (by decide +kernel)) (sh_rf hG (by decide +kernel)) ?_
      exact e_V (as := [aR 120]) (rest := []) (show decode (mC 114) 17 = .ok (.invokevirtual 133, 3) by decide +kernel) (by decide +kernel) (show (decide ((1 : Nat) = mA 8) && decide (8 < q_law)) = true by decide +kernel) rfl (show (0 : Nat) ≤ 8 by decide) (show (1 : Nat) ≤ mL 8 by decide +kernel) rfl (sh_ok hG (by decide +kernel)) (m2 p1 p2)
    · refine e_P (st' := [aI (-1000)]) (show decode (mC 114) 9 = .ok (.sipush (-1000), 3) by decide +kernel) rfl rfl rfl ?_
      exact e_iret (show decode (mC 114) 12 = .ok (.ireturn, 1) by decide +kernel) rfl (z3 p1 p2)
/-- SoulOffice.daybook(I)I, from 20 -/
theorem b114_20 (hG : Shp G) {v1 u0 x1 : Int} (hQ : ∀ o o' h', q_eqo o o' → Q o h' → Q o' h')
    (s0 : -2147483648 ≤ u0 ∧ u0 < 2147483648)
    (m1 : (¬ u0 = 0) → TM d 21 [aR 35, aR 27] (G, (q_up c 2 1 0)) (fun r h' => T (d + 1) 114 55 [some (aR 1), some (aI v1), none] (r.toList ++ []) h' Q))
    (ex1 : (q_up c 2 1 0) 2 11 = x1)
    (z3 : (u0 = 0) → Q (.inl (some (aI ((-2) - x1)))) (G, (q_up c 2 1 0))) :
    T (d + 1) 114 20 [some (aR 1), some (aI v1), none] [aI u0] (G, c) Q := by
  refine e_L (L' := [some (aR 1), some (aI v1), some (aI u0)]) (st' := []) (show decode (mC 114) 20 = .ok (.istore_n 2, 1) by decide +kernel) rfl rfl ?_
  refine e_L (L' := [some (aR 1), some (aI v1), some (aI u0)]) (st' := [aR 1]) (show decode (mC 114) 21 = .ok (.aload_n 0, 1) by decide +kernel) rfl (by show (if 1 = 0 then none else some (_, _)) = _; rw [if_neg (by decide)]) ?_
  refine e_getR (w := 2) (show decode (mC 114) 22 = .ok (.getfield 21, 3) by decide +kernel) (show pl 11 21 = some (0, 11, 0, 0) by decide +kernel) (by decide) (sh_ok hG (by decide +kernel)) (sh_rf hG (by decide +kernel)) ?_
  refine e_P (st' := [aI 0, aR 2]) (show decode (mC 114) 25 = .ok (.iconst 0, 1) by decide +kernel) rfl rfl rfl ?_
  refine e_putI (show decode (mC 114) 26 = .ok (.putfield 108, 3) by decide +kernel) (show pl 11 108 = some (0, 10, 1, 0) by decide +kernel) (by decide) (sh_ok hG (by decide +kernel)) ?_
  refine e_L (L' := [some (aR 1), some (aI v1), some (aI u0)]) (st' := [aI u0]) (show decode (mC 114) 29 = .ok (.iload_n 2, 1) by decide +kernel) rfl rfl ?_
  refine e_ne1 (t := 44) (show decode (mC 114) 30 = .ok (.ifCond .ne 14, 3) by decide +kernel) (by decide) s0 (fun p1 => ?_) (fun p1 => ?_)
  · refine e_L (L' := [some (aR 1), some (aI v1), some (aI u0)]) (st' := [aR 1]) (show decode (mC 114) 44 = .ok (.aload_n 0, 1) by decide +kernel) rfl (by show (if 1 = 0 then none else some (_, _)) = _; rw [if_neg (by decide)]) ?_
    refine e_getR (w := 35) (show decode (mC 114) 45 = .ok (.getfield 38, 3) by decide +kernel) (show pl 11 38 = some (0, 11, 4, 0) by decide +kernel) (by decide) (sh_ok hG (by decide +kernel)) (sh_rf hG (by decide +kernel)) ?_
    refine e_L (L' := [some (aR 1), some (aI v1), some (aI u0)]) (st' := [aR 1, aR 35]) (show decode (mC 114) 48 = .ok (.aload_n 0, 1) by decide +kernel) rfl (by show (if 1 = 0 then none else some (_, _)) = _; rw [if_neg (by decide)]) ?_
    refine e_getR (w := 27) (show decode (mC 114) 49 = .ok (.getfield 34, 3) by decide +kernel) (show pl 11 34 = some (0, 11, 3, 0) by decide +kernel) (by decide) (sh_ok hG (by decide +kernel)) (sh_rf hG (by decide +kernel)) ?_
    exact e_V (as := [aR 35, aR 27]) (rest := []) (show decode (mC 114) 52 = .ok (.invokevirtual 136, 3) by decide +kernel) (by decide +kernel) (show (decide ((2 : Nat) = mA 21) && decide (21 < q_law)) = true by decide +kernel) rfl (show (0 : Nat) ≤ 8 by decide) (show (2 : Nat) ≤ mL 21 by decide +kernel) rfl (sh_ok hG (by decide +kernel)) (tm_le hQ (leS (leS (leN leE))) (m1 p1))
  · refine e_P (st' := [aI (-2)]) (show decode (mC 114) 33 = .ok (.bipush (-2), 2) by decide +kernel) rfl rfl rfl ?_
    refine e_L (L' := [some (aR 1), some (aI v1), some (aI u0)]) (st' := [aR 1, aI (-2)]) (show decode (mC 114) 35 = .ok (.aload_n 0, 1) by decide +kernel) rfl (by show (if 1 = 0 then none else some (_, _)) = _; rw [if_neg (by decide)]) ?_
    refine e_getR (w := 2) (show decode (mC 114) 36 = .ok (.getfield 21, 3) by decide +kernel) (show pl 11 21 = some (0, 11, 0, 0) by decide +kernel) (by decide) (sh_ok hG (by decide +kernel)) (sh_rf hG (by decide +kernel)) ?_
    refine e_getIx (show decode (mC 114) 39 = .ok (.getfield 120, 3) by decide +kernel) (show pl 11 120 = some (0, 10, 11, 0) by decide +kernel) (by decide) (sh_ok hG (by decide +kernel)) ex1 ?_
    refine e_P (st' := [aI ((-2) - x1)]) (show decode (mC 114) 42 = .ok (.isub, 1) by decide +kernel) rfl rfl rfl ?_
    exact e_iret (show decode (mC 114) 43 = .ok (.ireturn, 1) by decide +kernel) rfl (z3 p1)
/-- SoulOffice.daybook(I)I, from 55 -/
theorem b114_55 (hG : Shp G) {v1 : Int}
    (m0 : TM d 10 [aR 120, aR 35] (G, c) (fun r h' => T (d + 1) 114 66 [some (aR 1), some (aI v1), none] (r.toList ++ []) h' Q)) :
    T (d + 1) 114 55 [some (aR 1), some (aI v1), none] [] (G, c) Q := by
  refine e_L (L' := [some (aR 1), some (aI v1), none]) (st' := [aR 1]) (show decode (mC 114) 55 = .ok (.aload_n 0, 1) by decide +kernel) rfl (by show (if 1 = 0 then none else some (_, _)) = _; rw [if_neg (by decide)]) ?_
  refine e_getR (w := 120) (show decode (mC 114) 56 = .ok (.getfield 70, 3) by decide +kernel) (show pl 11 70 = some (0, 11, 10, 0) by decide +kernel) (by decide) (sh_ok hG (by decide +kernel)) (sh_rf hG (by decide +kernel)) ?_
  refine e_L (L' := [some (aR 1), some (aI v1), none]) (st' := [aR 1, aR 120]) (show decode (mC 114) 59 = .ok (.aload_n 0, 1) by decide +kernel) rfl (by show (if 1 = 0 then none else some (_, _)) = _; rw [if_neg (by decide)]) ?_
  refine e_getR (w := 35) (show decode (mC 114) 60 = .ok (.getfield 38, 3) by decide +kernel) (show pl 11 38 = some (0, 11, 4, 0) by decide +kernel) (by decide) (sh_ok hG (by decide +kernel)) (sh_rf hG (by decide +kernel)) ?_
  exact e_V (as := [aR 120, aR 35]) (rest := []) (show decode (mC 114) 63 = .ok (.invokevirtual 139, 3) by decide +kernel) (by decide +kernel) (show (decide ((2 : Nat) = mA 10) && decide (10 < q_law)) = true by decide +kernel) rfl (show (0 : Nat) ≤ 8 by decide) (show (2 : Nat) ≤ mL 10 by decide +kernel) rfl (sh_ok hG (by decide +kernel)) m0
/-- SoulOffice.daybook(I)I, from 66 -/
theorem b114_66 (hG : Shp G) {v1 x1 : Int} (hQ : ∀ o o' h', q_eqo o o' → Q o h' → Q o' h')
    (s0 : -2147483648 ≤ v1 ∧ v1 < 2147483648)
    (k1 : (¬ v1 = 1) → T (d + 1) 114 103 [some (aR 1), none, none] [] (G, c) Q)
    (ex1 : c 120 8 = x1)
    (s3 : (v1 = 1) → -2147483648 ≤ x1 ∧ x1 < 2147483648)
    (k4 : (v1 = 1) → (x1 ≤ 0) → T (d + 1) 114 103 [some (aR 1), none, none] [] (G, c) Q)
    (m5 : (v1 = 1) → (0 < x1) → TM d 14 [aR 53, aR 27] (G, c) (fun r h' => T (d + 1) 114 92 [some (aR 1), none, none] (r.toList ++ []) h' Q)) :
    T (d + 1) 114 66 [some (aR 1), some (aI v1), none] [] (G, c) Q := by
  refine e_L (L' := [some (aR 1), some (aI v1), none]) (st' := [aI v1]) (show decode (mC 114) 66 = .ok (.iload_n 1, 1) by decide +kernel) rfl rfl ?_
  refine e_P (st' := [aI 1, aI v1]) (show decode (mC 114) 67 = .ok (.iconst 1, 1) by decide +kernel) rfl rfl rfl ?_
  refine e_ne2 (t := 103) (show decode (mC 114) 68 = .ok (.if_icmp .ne 35, 3) by decide +kernel) (by decide) s0 (by decide) (fun p1 => ?_) (fun p1 => ?_)
  · exact T_le hQ (leS (leN (leS leE))) (k1 p1)
  · refine e_L (L' := [some (aR 1), some (aI v1), none]) (st' := [aR 1]) (show decode (mC 114) 71 = .ok (.aload_n 0, 1) by decide +kernel) rfl (by show (if 1 = 0 then none else some (_, _)) = _; rw [if_neg (by decide)]) ?_
    refine e_getR (w := 120) (show decode (mC 114) 72 = .ok (.getfield 70, 3) by decide +kernel) (show pl 11 70 = some (0, 11, 10, 0) by decide +kernel) (by decide) (sh_ok hG (by decide +kernel)) (sh_rf hG (by decide +kernel)) ?_
    refine e_getIx (show decode (mC 114) 75 = .ok (.getfield 142, 3) by decide +kernel) (show pl 11 142 = some (0, 1, 8, 0) by decide +kernel) (by decide) (sh_ok hG (by decide +kernel)) ex1 ?_
    refine e_le1 (t := 103) (show decode (mC 114) 78 = .ok (.ifCond .le 25, 3) by decide +kernel) (by decide) (s3 p1) (fun p2 => ?_) (fun p2 => ?_)
    · exact T_le hQ (leS (leN (leS leE))) (k4 p1 p2)
    · refine e_L (L' := [some (aR 1), some (aI v1), none]) (st' := [aR 1]) (show decode (mC 114) 81 = .ok (.aload_n 0, 1) by decide +kernel) rfl (by show (if 1 = 0 then none else some (_, _)) = _; rw [if_neg (by decide)]) ?_
      refine e_getR (w := 53) (show decode (mC 114) 82 = .ok (.getfield 56, 3) by decide +kernel) (show pl 11 56 = some (0, 11, 7, 0) by decide +kernel) (by decide) (sh_ok hG (by decide +kernel)) (sh_rf hG (by decide +kernel)) ?_
      refine e_L (L' := [some (aR 1), some (aI v1), none]) (st' := [aR 1, aR 53]) (show decode (mC 114) 85 = .ok (.aload_n 0, 1) by decide +kernel) rfl (by show (if 1 = 0 then none else some (_, _)) = _; rw [if_neg (by decide)]) ?_
      refine e_getR (w := 27) (show decode (mC 114) 86 = .ok (.getfield 34, 3) by decide +kernel) (show pl 11 34 = some (0, 11, 3, 0) by decide +kernel) (by decide) (sh_ok hG (by decide +kernel)) (sh_rf hG (by decide +kernel)) ?_
      exact e_V (as := [aR 53, aR 27]) (rest := []) (show decode (mC 114) 89 = .ok (.invokevirtual 145, 3) by decide +kernel) (by decide +kernel) (show (decide ((2 : Nat) = mA 14) && decide (14 < q_law)) = true by decide +kernel) rfl (show (0 : Nat) ≤ 8 by decide) (show (2 : Nat) ≤ mL 14 by decide +kernel) rfl (sh_ok hG (by decide +kernel)) (tm_le hQ (leS (leN (leS leE))) (m5 p1 p2))
/-- SoulOffice.daybook(I)I, from 92 -/
theorem b114_92 (hG : Shp G)
    (m0 : TM d 21 [aR 27, aR 35] (G, c) (fun r h' => T (d + 1) 114 103 [some (aR 1), none, none] (r.toList ++ []) h' Q)) :
    T (d + 1) 114 92 [some (aR 1), none, none] [] (G, c) Q := by
  refine e_L (L' := [some (aR 1), none, none]) (st' := [aR 1]) (show decode (mC 114) 92 = .ok (.aload_n 0, 1) by decide +kernel) rfl (by show (if 1 = 0 then none else some (_, _)) = _; rw [if_neg (by decide)]) ?_
  refine e_getR (w := 27) (show decode (mC 114) 93 = .ok (.getfield 34, 3) by decide +kernel) (show pl 11 34 = some (0, 11, 3, 0) by decide +kernel) (by decide) (sh_ok hG (by decide +kernel)) (sh_rf hG (by decide +kernel)) ?_
  refine e_L (L' := [some (aR 1), none, none]) (st' := [aR 1, aR 27]) (show decode (mC 114) 96 = .ok (.aload_n 0, 1) by decide +kernel) rfl (by show (if 1 = 0 then none else some (_, _)) = _; rw [if_neg (by decide)]) ?_
  refine e_getR (w := 35) (show decode (mC 114) 97 = .ok (.getfield 38, 3) by decide +kernel) (show pl 11 38 = some (0, 11, 4, 0) by decide +kernel) (by decide) (sh_ok hG (by decide +kernel)) (sh_rf hG (by decide +kernel)) ?_
  exact e_V (as := [aR 27, aR 35]) (rest := []) (show decode (mC 114) 100 = .ok (.invokevirtual 136, 3) by decide +kernel) (by decide +kernel) (show (decide ((2 : Nat) = mA 21) && decide (21 < q_law)) = true by decide +kernel) rfl (show (0 : Nat) ≤ 8 by decide) (show (2 : Nat) ≤ mL 21 by decide +kernel) rfl (sh_ok hG (by decide +kernel)) m0
/-- SoulOffice.daybook(I)I, from 103 -/
theorem b114_103 (hG : Shp G) {x1 x2 : Int}
    (ex1 : c 120 7 = x1)
    (s1 : -2147483648 ≤ x1 ∧ x1 < 2147483648)
    (ex2 : c 120 8 = x2)
    (z3 : (¬ x1 = 0) → Q (.inl (some (aI x2))) (G, c))
    (z4 : (x1 = 0) → Q (.inl (some (aI (-1)))) (G, c)) :
    T (d + 1) 114 103 [some (aR 1), none, none] [] (G, c) Q := by
  refine e_L (L' := [some (aR 1), none, none]) (st' := [aR 1]) (show decode (mC 114) 103 = .ok (.aload_n 0, 1) by decide +kernel) rfl (by show (if 1 = 0 then none else some (_, _)) = _; rw [if_neg (by decide)]) ?_
  refine e_getR (w := 120) (show decode (mC 114) 104 = .ok (.getfield 70, 3) by decide +kernel) (show pl 11 70 = some (0, 11, 10, 0) by decide +kernel) (by decide) (sh_ok hG (by decide +kernel)) (sh_rf hG (by decide +kernel)) ?_
  refine e_getIx (show decode (mC 114) 107 = .ok (.getfield 148, 3) by decide +kernel) (show pl 11 148 = some (0, 1, 7, 0) by decide +kernel) (by decide) (sh_ok hG (by decide +kernel)) ex1 ?_
  refine e_ne1 (t := 117) (show decode (mC 114) 110 = .ok (.ifCond .ne 7, 3) by decide +kernel) (by decide) s1 (fun p1 => ?_) (fun p1 => ?_)
  · refine e_L (L' := [some (aR 1), none, none]) (st' := [aR 1]) (show decode (mC 114) 117 = .ok (.aload_n 0, 1) by decide +kernel) rfl (by show (if 1 = 0 then none else some (_, _)) = _; rw [if_neg (by decide)]) ?_
    refine e_getR (w := 120) (show decode (mC 114) 118 = .ok (.getfield 70, 3) by decide +kernel) (show pl 11 70 = some (0, 11, 10, 0) by decide +kernel) (by decide) (sh_ok hG (by decide +kernel)) (sh_rf hG (by decide +kernel)) ?_
    refine e_getIx (show decode (mC 114) 121 = .ok (.getfield 142, 3) by decide +kernel) (show pl 11 142 = some (0, 1, 8, 0) by decide +kernel) (by decide) (sh_ok hG (by decide +kernel)) ex2 ?_
    exact e_iret (show decode (mC 114) 124 = .ok (.ireturn, 1) by decide +kernel) rfl (z3 p1)
  · refine e_P (st' := [aI (-1)]) (show decode (mC 114) 113 = .ok (.iconst (-1), 1) by decide +kernel) rfl rfl rfl ?_
    refine e_go (t := 124) (show decode (mC 114) 114 = .ok (.goto 10, 3) by decide +kernel) (by decide) ?_
    exact e_iret (show decode (mC 114) 124 = .ok (.ireturn, 1) by decide +kernel) rfl (z4 p1)
/-- SoulOffice.booked(I)I, from 0 -/
theorem b115_0 (hG : Shp G) {v1 x1 x2 x3 x4 x5 : Int}
    (ex1 : c 120 6 = x1)
    (s1 : -2147483648 ≤ x1 ∧ x1 < 2147483648)
    (s2 : (¬ x1 = 0) → -2147483648 ≤ v1 ∧ v1 < 2147483648)
    (z3 : (¬ x1 = 0) → (v1 < 0 ∨ 3 < v1) → Q (.inl (some (aI (-1)))) (G, c))
    (ex2 : c 120 7 = x2)
    (z5 : (¬ x1 = 0) → (v1 = 0) → Q (.inl (some (aI x2))) (G, c))
    (ex3 : c 120 8 = x3)
    (z7 : (¬ x1 = 0) → (v1 = 1) → Q (.inl (some (aI x3))) (G, c))
    (ex4 : c 120 9 = x4)
    (z9 : (¬ x1 = 0) → (v1 = 2) → Q (.inl (some (aI x4))) (G, c))
    (ex5 : c 120 10 = x5)
    (z11 : (¬ x1 = 0) → (v1 = 3) → Q (.inl (some (aI x5))) (G, c))
    (z12 : (x1 = 0) → Q (.inl (some (aI (-1)))) (G, c)) :
    T d 115 0 [some (aR 1), some (aI v1)] [] (G, c) Q := by
  refine e_L (L' := [some (aR 1), some (aI v1)]) (st' := [aR 1]) (show decode (mC 115) 0 = .ok (.aload_n 0, 1) by decide +kernel) rfl (by show (if 1 = 0 then none else some (_, _)) = _; rw [if_neg (by decide)]) ?_
  refine e_getR (w := 120) (show decode (mC 115) 1 = .ok (.getfield 70, 3) by decide +kernel) (show pl 11 70 = some (0, 11, 10, 0) by decide +kernel) (by decide) (sh_ok hG (by decide +kernel)) (sh_rf hG (by decide +kernel)) ?_
  refine e_getIx (show decode (mC 115) 4 = .ok (.getfield 151, 3) by decide +kernel) (show pl 11 151 = some (0, 1, 6, 0) by decide +kernel) (by decide) (sh_ok hG (by decide +kernel)) ex1 ?_
  refine e_ne1 (t := 12) (show decode (mC 115) 7 = .ok (.ifCond .ne 5, 3) by decide +kernel) (by decide) s1 (fun p1 => ?_) (fun p1 => ?_)
  · refine e_L (L' := [some (aR 1), some (aI v1)]) (st' := [aI v1]) (show decode (mC 115) 12 = .ok (.iload_n 1, 1) by decide +kernel) rfl rfl ?_
    rcases (show (v1 < 0 ∨ 3 < v1) ∨ v1 = 0 ∨ v1 = 1 ∨ v1 = 2 ∨ v1 = 3 by omega) with p2 | p2 | p2 | p2 | p2
    · refine e_swd (t := 76) (show decode (mC 115) 13 = .ok (.tableswitch 63 0 3 #[31, 39, 47, 55], 31) by decide +kernel) (s2 p1) p2 (by decide) ?_
      refine e_P (st' := [aI (-1)]) (show decode (mC 115) 76 = .ok (.iconst (-1), 1) by decide +kernel) rfl rfl rfl ?_
      exact e_iret (show decode (mC 115) 77 = .ok (.ireturn, 1) by decide +kernel) rfl (z3 p1 p2)
    · refine e_swj (off := 31) (t := 44) 0 (show decode (mC 115) 13 = .ok (.tableswitch 63 0 3 #[31, 39, 47, 55], 31) by decide +kernel) p2 (by decide +kernel) ?_
      refine e_L (L' := [some (aR 1), some (aI v1)]) (st' := [aR 1]) (show decode (mC 115) 44 = .ok (.aload_n 0, 1) by decide +kernel) rfl (by show (if 1 = 0 then none else some (_, _)) = _; rw [if_neg (by decide)]) ?_
      refine e_getR (w := 120) (show decode (mC 115) 45 = .ok (.getfield 70, 3) by decide +kernel) (show pl 11 70 = some (0, 11, 10, 0) by decide +kernel) (by decide) (sh_ok hG (by decide +kernel)) (sh_rf hG (by decide +kernel)) ?_
      refine e_getIx (show decode (mC 115) 48 = .ok (.getfield 148, 3) by decide +kernel) (show pl 11 148 = some (0, 1, 7, 0) by decide +kernel) (by decide) (sh_ok hG (by decide +kernel)) ex2 ?_
      exact e_iret (show decode (mC 115) 51 = .ok (.ireturn, 1) by decide +kernel) rfl (z5 p1 p2)
    · refine e_swj (off := 39) (t := 52) 1 (show decode (mC 115) 13 = .ok (.tableswitch 63 0 3 #[31, 39, 47, 55], 31) by decide +kernel) p2 (by decide +kernel) ?_
      refine e_L (L' := [some (aR 1), some (aI v1)]) (st' := [aR 1]) (show decode (mC 115) 52 = .ok (.aload_n 0, 1) by decide +kernel) rfl (by show (if 1 = 0 then none else some (_, _)) = _; rw [if_neg (by decide)]) ?_
      refine e_getR (w := 120) (show decode (mC 115) 53 = .ok (.getfield 70, 3) by decide +kernel) (show pl 11 70 = some (0, 11, 10, 0) by decide +kernel) (by decide) (sh_ok hG (by decide +kernel)) (sh_rf hG (by decide +kernel)) ?_
      refine e_getIx (show decode (mC 115) 56 = .ok (.getfield 142, 3) by decide +kernel) (show pl 11 142 = some (0, 1, 8, 0) by decide +kernel) (by decide) (sh_ok hG (by decide +kernel)) ex3 ?_
      exact e_iret (show decode (mC 115) 59 = .ok (.ireturn, 1) by decide +kernel) rfl (z7 p1 p2)
    · refine e_swj (off := 47) (t := 60) 2 (show decode (mC 115) 13 = .ok (.tableswitch 63 0 3 #[31, 39, 47, 55], 31) by decide +kernel) p2 (by decide +kernel) ?_
      refine e_L (L' := [some (aR 1), some (aI v1)]) (st' := [aR 1]) (show decode (mC 115) 60 = .ok (.aload_n 0, 1) by decide +kernel) rfl (by show (if 1 = 0 then none else some (_, _)) = _; rw [if_neg (by decide)]) ?_
      refine e_getR (w := 120) (show decode (mC 115) 61 = .ok (.getfield 70, 3) by decide +kernel) (show pl 11 70 = some (0, 11, 10, 0) by decide +kernel) (by decide) (sh_ok hG (by decide +kernel)) (sh_rf hG (by decide +kernel)) ?_
      refine e_getIx (show decode (mC 115) 64 = .ok (.getfield 155, 3) by decide +kernel) (show pl 11 155 = some (0, 1, 9, 0) by decide +kernel) (by decide) (sh_ok hG (by decide +kernel)) ex4 ?_
      exact e_iret (show decode (mC 115) 67 = .ok (.ireturn, 1) by decide +kernel) rfl (z9 p1 p2)
    · refine e_swj (off := 55) (t := 68) 3 (show decode (mC 115) 13 = .ok (.tableswitch 63 0 3 #[31, 39, 47, 55], 31) by decide +kernel) p2 (by decide +kernel) ?_
      refine e_L (L' := [some (aR 1), some (aI v1)]) (st' := [aR 1]) (show decode (mC 115) 68 = .ok (.aload_n 0, 1) by decide +kernel) rfl (by show (if 1 = 0 then none else some (_, _)) = _; rw [if_neg (by decide)]) ?_
      refine e_getR (w := 120) (show decode (mC 115) 69 = .ok (.getfield 70, 3) by decide +kernel) (show pl 11 70 = some (0, 11, 10, 0) by decide +kernel) (by decide) (sh_ok hG (by decide +kernel)) (sh_rf hG (by decide +kernel)) ?_
      refine e_getIx (show decode (mC 115) 72 = .ok (.getfield 158, 3) by decide +kernel) (show pl 11 158 = some (0, 1, 10, 0) by decide +kernel) (by decide) (sh_ok hG (by decide +kernel)) ex5 ?_
      exact e_iret (show decode (mC 115) 75 = .ok (.ireturn, 1) by decide +kernel) rfl (z11 p1 p2)
  · refine e_P (st' := [aI (-1)]) (show decode (mC 115) 10 = .ok (.iconst (-1), 1) by decide +kernel) rfl rfl rfl ?_
    exact e_iret (show decode (mC 115) 11 = .ok (.ireturn, 1) by decide +kernel) rfl (z12 p1)
/-- SoulOffice.sentence()I, from 0 -/
theorem b116_0 (hG : Shp G)
    (m0 : TM d 82 [aR 48] (G, c) (fun r h' => T (d + 1) 116 7 [some (aR 1), none] (r.toList ++ []) h' Q)) :
    T (d + 1) 116 0 [some (aR 1), none] [] (G, c) Q := by
  refine e_L (L' := [some (aR 1), none]) (st' := [aR 1]) (show decode (mC 116) 0 = .ok (.aload_n 0, 1) by decide +kernel) rfl (by show (if 1 = 0 then none else some (_, _)) = _; rw [if_neg (by decide)]) ?_
  refine e_getR (w := 48) (show decode (mC 116) 1 = .ok (.getfield 50, 3) by decide +kernel) (show pl 11 50 = some (0, 11, 6, 0) by decide +kernel) (by decide) (sh_ok hG (by decide +kernel)) (sh_rf hG (by decide +kernel)) ?_
  exact e_V (as := [aR 48]) (rest := []) (show decode (mC 116) 4 = .ok (.invokevirtual 161, 3) by decide +kernel) (by decide +kernel) (show (decide ((1 : Nat) = mA 82) && decide (82 < q_law)) = true by decide +kernel) rfl (show (0 : Nat) ≤ 8 by decide) (show (1 : Nat) ≤ mL 82 by decide +kernel) rfl (sh_ok hG (by decide +kernel)) m0
/-- SoulOffice.sentence()I, from 7 -/
theorem b116_7 (hG : Shp G) {u0 x1 : Int} (hQ : ∀ o o' h', q_eqo o o' → Q o h' → Q o' h')
    (s0 : -2147483648 ≤ u0 ∧ u0 < 2147483648)
    (m1 : (¬ u0 = 0) → TM d 81 [aR 43, aR 48] (G, (q_up c 2 1 0)) (fun r h' => T (d + 1) 116 41 [some (aR 1), none] (r.toList ++ []) h' Q))
    (ex1 : (q_up c 2 1 0) 2 11 = x1)
    (z3 : (u0 = 0) → Q (.inl (some (aI ((-1) - x1)))) (G, (q_up c 2 1 0))) :
    T (d + 1) 116 7 [some (aR 1), none] [aI u0] (G, c) Q := by
  refine e_L (L' := [some (aR 1), some (aI u0)]) (st' := []) (show decode (mC 116) 7 = .ok (.istore_n 1, 1) by decide +kernel) rfl rfl ?_
  refine e_L (L' := [some (aR 1), some (aI u0)]) (st' := [aR 1]) (show decode (mC 116) 8 = .ok (.aload_n 0, 1) by decide +kernel) rfl (by show (if 1 = 0 then none else some (_, _)) = _; rw [if_neg (by decide)]) ?_
  refine e_getR (w := 2) (show decode (mC 116) 9 = .ok (.getfield 21, 3) by decide +kernel) (show pl 11 21 = some (0, 11, 0, 0) by decide +kernel) (by decide) (sh_ok hG (by decide +kernel)) (sh_rf hG (by decide +kernel)) ?_
  refine e_P (st' := [aI 0, aR 2]) (show decode (mC 116) 12 = .ok (.iconst 0, 1) by decide +kernel) rfl rfl rfl ?_
  refine e_putI (show decode (mC 116) 13 = .ok (.putfield 108, 3) by decide +kernel) (show pl 11 108 = some (0, 10, 1, 0) by decide +kernel) (by decide) (sh_ok hG (by decide +kernel)) ?_
  refine e_L (L' := [some (aR 1), some (aI u0)]) (st' := [aI u0]) (show decode (mC 116) 16 = .ok (.iload_n 1, 1) by decide +kernel) rfl rfl ?_
  refine e_ne1 (t := 30) (show decode (mC 116) 17 = .ok (.ifCond .ne 13, 3) by decide +kernel) (by decide) s0 (fun p1 => ?_) (fun p1 => ?_)
  · refine e_L (L' := [some (aR 1), some (aI u0)]) (st' := [aR 1]) (show decode (mC 116) 30 = .ok (.aload_n 0, 1) by decide +kernel) rfl (by show (if 1 = 0 then none else some (_, _)) = _; rw [if_neg (by decide)]) ?_
    refine e_getR (w := 43) (show decode (mC 116) 31 = .ok (.getfield 46, 3) by decide +kernel) (show pl 11 46 = some (0, 11, 5, 0) by decide +kernel) (by decide) (sh_ok hG (by decide +kernel)) (sh_rf hG (by decide +kernel)) ?_
    refine e_L (L' := [some (aR 1), some (aI u0)]) (st' := [aR 1, aR 43]) (show decode (mC 116) 34 = .ok (.aload_n 0, 1) by decide +kernel) rfl (by show (if 1 = 0 then none else some (_, _)) = _; rw [if_neg (by decide)]) ?_
    refine e_getR (w := 48) (show decode (mC 116) 35 = .ok (.getfield 50, 3) by decide +kernel) (show pl 11 50 = some (0, 11, 6, 0) by decide +kernel) (by decide) (sh_ok hG (by decide +kernel)) (sh_rf hG (by decide +kernel)) ?_
    exact e_V (as := [aR 43, aR 48]) (rest := []) (show decode (mC 116) 38 = .ok (.invokevirtual 164, 3) by decide +kernel) (by decide +kernel) (show (decide ((2 : Nat) = mA 81) && decide (81 < q_law)) = true by decide +kernel) rfl (show (0 : Nat) ≤ 8 by decide) (show (2 : Nat) ≤ mL 81 by decide +kernel) rfl (sh_ok hG (by decide +kernel)) (tm_le hQ (leS (leN leE)) (m1 p1))
  · refine e_P (st' := [aI (-1)]) (show decode (mC 116) 20 = .ok (.iconst (-1), 1) by decide +kernel) rfl rfl rfl ?_
    refine e_L (L' := [some (aR 1), some (aI u0)]) (st' := [aR 1, aI (-1)]) (show decode (mC 116) 21 = .ok (.aload_n 0, 1) by decide +kernel) rfl (by show (if 1 = 0 then none else some (_, _)) = _; rw [if_neg (by decide)]) ?_
    refine e_getR (w := 2) (show decode (mC 116) 22 = .ok (.getfield 21, 3) by decide +kernel) (show pl 11 21 = some (0, 11, 0, 0) by decide +kernel) (by decide) (sh_ok hG (by decide +kernel)) (sh_rf hG (by decide +kernel)) ?_
    refine e_getIx (show decode (mC 116) 25 = .ok (.getfield 120, 3) by decide +kernel) (show pl 11 120 = some (0, 10, 11, 0) by decide +kernel) (by decide) (sh_ok hG (by decide +kernel)) ex1 ?_
    refine e_P (st' := [aI ((-1) - x1)]) (show decode (mC 116) 28 = .ok (.isub, 1) by decide +kernel) rfl rfl rfl ?_
    exact e_iret (show decode (mC 116) 29 = .ok (.ireturn, 1) by decide +kernel) rfl (z3 p1)
/-- SoulOffice.sentence()I, from 41 -/
theorem b116_41 (hG : Shp G) {x1 : Int}
    (ex1 : c 43 8 = x1)
    (z1 : Q (.inl (some (aI x1))) (G, c)) :
    T (d + 1) 116 41 [some (aR 1), none] [] (G, c) Q := by
  refine e_L (L' := [some (aR 1), none]) (st' := [aR 1]) (show decode (mC 116) 41 = .ok (.aload_n 0, 1) by decide +kernel) rfl (by show (if 1 = 0 then none else some (_, _)) = _; rw [if_neg (by decide)]) ?_
  refine e_getR (w := 43) (show decode (mC 116) 42 = .ok (.getfield 46, 3) by decide +kernel) (show pl 11 46 = some (0, 11, 5, 0) by decide +kernel) (by decide) (sh_ok hG (by decide +kernel)) (sh_rf hG (by decide +kernel)) ?_
  refine e_getIx (show decode (mC 116) 45 = .ok (.getfield 167, 3) by decide +kernel) (show pl 11 167 = some (0, 9, 8, 0) by decide +kernel) (by decide) (sh_ok hG (by decide +kernel)) ex1 ?_
  exact e_iret (show decode (mC 116) 48 = .ok (.ireturn, 1) by decide +kernel) rfl z1
/-- SoulOffice.said(I)I, from 0 -/
theorem b117_0 (hG : Shp G) {v1 x1 : Int}
    (ex1 : c 43 7 = x1)
    (s1 : -2147483648 ≤ x1 ∧ x1 < 2147483648)
    (m2 : (¬ x1 = 0) → TM d 89 [aR 43, aR 27] (G, c) (fun r h' => T (d + 1) 117 23 [some (aR 1), some (aI v1), none, none, none] (r.toList ++ []) h' Q))
    (z3 : (x1 = 0) → Q (.inl (some (aI (-1)))) (G, c)) :
    T (d + 1) 117 0 [some (aR 1), some (aI v1), none, none, none] [] (G, c) Q := by
  refine e_L (L' := [some (aR 1), some (aI v1), none, none, none]) (st' := [aR 1]) (show decode (mC 117) 0 = .ok (.aload_n 0, 1) by decide +kernel) rfl (by show (if 1 = 0 then none else some (_, _)) = _; rw [if_neg (by decide)]) ?_
  refine e_getR (w := 43) (show decode (mC 117) 1 = .ok (.getfield 46, 3) by decide +kernel) (show pl 11 46 = some (0, 11, 5, 0) by decide +kernel) (by decide) (sh_ok hG (by decide +kernel)) (sh_rf hG (by decide +kernel)) ?_
  refine e_getIx (show decode (mC 117) 4 = .ok (.getfield 170, 3) by decide +kernel) (show pl 11 170 = some (0, 9, 7, 0) by decide +kernel) (by decide) (sh_ok hG (by decide +kernel)) ex1 ?_
  refine e_ne1 (t := 12) (show decode (mC 117) 7 = .ok (.ifCond .ne 5, 3) by decide +kernel) (by decide) s1 (fun p1 => ?_) (fun p1 => ?_)
  · refine e_L (L' := [some (aR 1), some (aI v1), none, none, none]) (st' := [aR 1]) (show decode (mC 117) 12 = .ok (.aload_n 0, 1) by decide +kernel) rfl (by show (if 1 = 0 then none else some (_, _)) = _; rw [if_neg (by decide)]) ?_
    refine e_getR (w := 43) (show decode (mC 117) 13 = .ok (.getfield 46, 3) by decide +kernel) (show pl 11 46 = some (0, 11, 5, 0) by decide +kernel) (by decide) (sh_ok hG (by decide +kernel)) (sh_rf hG (by decide +kernel)) ?_
    refine e_L (L' := [some (aR 1), some (aI v1), none, none, none]) (st' := [aR 1, aR 43]) (show decode (mC 117) 16 = .ok (.aload_n 0, 1) by decide +kernel) rfl (by show (if 1 = 0 then none else some (_, _)) = _; rw [if_neg (by decide)]) ?_
    refine e_getR (w := 27) (show decode (mC 117) 17 = .ok (.getfield 34, 3) by decide +kernel) (show pl 11 34 = some (0, 11, 3, 0) by decide +kernel) (by decide) (sh_ok hG (by decide +kernel)) (sh_rf hG (by decide +kernel)) ?_
    exact e_V (as := [aR 43, aR 27]) (rest := []) (show decode (mC 117) 20 = .ok (.invokevirtual 171, 3) by decide +kernel) (by decide +kernel) (show (decide ((2 : Nat) = mA 89) && decide (89 < q_law)) = true by decide +kernel) rfl (show (0 : Nat) ≤ 8 by decide) (show (2 : Nat) ≤ mL 89 by decide +kernel) rfl (sh_ok hG (by decide +kernel)) (m2 p1)
  · refine e_P (st' := [aI (-1)]) (show decode (mC 117) 10 = .ok (.iconst (-1), 1) by decide +kernel) rfl rfl rfl ?_
    exact e_iret (show decode (mC 117) 11 = .ok (.ireturn, 1) by decide +kernel) rfl (z3 p1)
/-- SoulOffice.said(I)I, from 23 -/
theorem b117_23 (hG : Shp G) {v1 u0 : Int} (hQ : ∀ o o' h', q_eqo o o' → Q o h' → Q o' h')
    (s0 : -2147483648 ≤ v1 ∧ v1 < 2147483648)
    (k1 : (¬ v1 = (-1)) → T (d + 1) 117 39 [some (aR 1), some (aI v1), some (aI u0), some (aI 0), some (aI 0)] [] (G, c) Q)
    (m2 : (v1 = (-1)) → TM d 267 [aI u0] (G, c) (fun r h' => T (d + 1) 117 33 [none, none, none, none, none] (r.toList ++ []) h' Q)) :
    T (d + 1) 117 23 [some (aR 1), some (aI v1), none, none, none] [aI u0] (G, c) Q := by
  refine e_L (L' := [some (aR 1), some (aI v1), some (aI u0), none, none]) (st' := []) (show decode (mC 117) 23 = .ok (.istore_n 2, 1) by decide +kernel) rfl rfl ?_
  refine e_L (L' := [some (aR 1), some (aI v1), some (aI u0), none, none]) (st' := [aI v1]) (show decode (mC 117) 24 = .ok (.iload_n 1, 1) by decide +kernel) rfl rfl ?_
  refine e_P (st' := [aI (-1), aI v1]) (show decode (mC 117) 25 = .ok (.iconst (-1), 1) by decide +kernel) rfl rfl rfl ?_
  refine e_ne2 (t := 34) (show decode (mC 117) 26 = .ok (.if_icmp .ne 8, 3) by decide +kernel) (by decide) s0 (by decide) (fun p1 => ?_) (fun p1 => ?_)
  · refine e_P (st' := [aI 0]) (show decode (mC 117) 34 = .ok (.iconst 0, 1) by decide +kernel) rfl rfl rfl ?_
    refine e_L (L' := [some (aR 1), some (aI v1), some (aI u0), some (aI 0), none]) (st' := []) (show decode (mC 117) 35 = .ok (.istore_n 3, 1) by decide +kernel) rfl rfl ?_
    refine e_P (st' := [aI 0]) (show decode (mC 117) 36 = .ok (.iconst 0, 1) by decide +kernel) rfl rfl rfl ?_
    refine e_L (L' := [some (aR 1), some (aI v1), some (aI u0), some (aI 0), some (aI 0)]) (st' := []) (show decode (mC 117) 37 = .ok (.istore 4, 2) by decide +kernel) rfl rfl ?_
    exact (k1 p1)
  · refine e_L (L' := [some (aR 1), some (aI v1), some (aI u0), none, none]) (st' := [aI u0]) (show decode (mC 117) 29 = .ok (.iload_n 2, 1) by decide +kernel) rfl rfl ?_
    exact e_S (as := [aI u0]) (rest := []) (show decode (mC 117) 30 = .ok (.invokestatic 175, 3) by decide +kernel) (by decide +kernel) (show (decide ((1 : Nat) = mA 267) && decide (267 < q_law)) = true by decide +kernel) rfl (show (0 : Nat) ≤ 8 by decide) (show (1 : Nat) ≤ mL 267 by decide +kernel) (tm_le hQ (leN (leN (leN (leS (leS leE))))) (m2 p1))
/-- SoulOffice.said(I)I, from 33 -/
theorem b117_33 (hG : Shp G) {u0 : Int}
    (z0 : Q (.inl (some (aI u0))) (G, c)) :
    T (d + 1) 117 33 [none, none, none, none, none] [aI u0] (G, c) Q := by
  exact e_iret (show decode (mC 117) 33 = .ok (.ireturn, 1) by decide +kernel) rfl z0
/-- SoulOffice.said(I)I, from 39 -/
theorem b117_39 (hG : Shp G) {v1 v2 v3 v4 x1 : Int}
    (ex1 : c 9 1 = x1)
    (s1 : -2147483648 ≤ v4 ∧ v4 < 2147483648)
    (s2 : -2147483648 ≤ x1 ∧ x1 < 2147483648)
    (z3 : (x1 ≤ v4) → Q (.inl (some (aI (-1)))) (G, c))
    (s4 : (v4 < x1) → -2147483648 ≤ (q_and (q_shr v2 v4) 1) ∧ (q_and (q_shr v2 v4) 1) < 2147483648)
    (k5 : (v4 < x1) → (¬ (q_and (q_shr v2 v4) 1) = 1) → T (d + 1) 117 39 [some (aR 1), some (aI v1), some (aI v2), some (aI v3), some (aI (v4 + 1))] [] (G, c) Q)
    (s6 : (v4 < x1) → ((q_and (q_shr v2 v4) 1) = 1) → -2147483648 ≤ v3 ∧ v3 < 2147483648)
    (s7 : (v4 < x1) → ((q_and (q_shr v2 v4) 1) = 1) → -2147483648 ≤ v1 ∧ v1 < 2147483648)
    (k8 : (v4 < x1) → ((q_and (q_shr v2 v4) 1) = 1) → (¬ v3 = v1) → T (d + 1) 117 39 [some (aR 1), some (aI v1), some (aI v2), some (aI (v3 + 1)), some (aI (v4 + 1))] [] (G, c) Q)
    (z9 : (v4 < x1) → ((q_and (q_shr v2 v4) 1) = 1) → (v3 = v1) → Q (.inl (some (aI v4))) (G, c)) :
    T (d + 1) 117 39 [some (aR 1), some (aI v1), some (aI v2), some (aI v3), some (aI v4)] [] (G, c) Q := by
  refine e_L (L' := [some (aR 1), some (aI v1), some (aI v2), some (aI v3), some (aI v4)]) (st' := [aI v4]) (show decode (mC 117) 39 = .ok (.iload 4, 2) by decide +kernel) rfl rfl ?_
  refine e_L (L' := [some (aR 1), some (aI v1), some (aI v2), some (aI v3), some (aI v4)]) (st' := [aR 1, aI v4]) (show decode (mC 117) 41 = .ok (.aload_n 0, 1) by decide +kernel) rfl (by show (if 1 = 0 then none else some (_, _)) = _; rw [if_neg (by decide)]) ?_
  refine e_getR (w := 9) (show decode (mC 117) 42 = .ok (.getfield 27, 3) by decide +kernel) (show pl 11 27 = some (0, 11, 1, 0) by decide +kernel) (by decide) (sh_ok hG (by decide +kernel)) (sh_rf hG (by decide +kernel)) ?_
  refine e_getIx (show decode (mC 117) 45 = .ok (.getfield 181, 3) by decide +kernel) (show pl 11 181 = some (0, 8, 1, 0) by decide +kernel) (by decide) (sh_ok hG (by decide +kernel)) ex1 ?_
  refine e_ge2 (t := 78) (show decode (mC 117) 48 = .ok (.if_icmp .ge 30, 3) by decide +kernel) (by decide) s1 s2 (fun p1 => ?_) (fun p1 => ?_)
  · refine e_P (st' := [aI (-1)]) (show decode (mC 117) 78 = .ok (.iconst (-1), 1) by decide +kernel) rfl rfl rfl ?_
    exact e_iret (show decode (mC 117) 79 = .ok (.ireturn, 1) by decide +kernel) rfl (z3 p1)
  · refine e_L (L' := [some (aR 1), some (aI v1), some (aI v2), some (aI v3), some (aI v4)]) (st' := [aI v2]) (show decode (mC 117) 51 = .ok (.iload_n 2, 1) by decide +kernel) rfl rfl ?_
    refine e_L (L' := [some (aR 1), some (aI v1), some (aI v2), some (aI v3), some (aI v4)]) (st' := [aI v4, aI v2]) (show decode (mC 117) 52 = .ok (.iload 4, 2) by decide +kernel) rfl rfl ?_
    refine e_P (st' := [aI (q_shr v2 v4)]) (show decode (mC 117) 54 = .ok (.ishr, 1) by decide +kernel) rfl rfl rfl ?_
    refine e_P (st' := [aI 1, aI (q_shr v2 v4)]) (show decode (mC 117) 55 = .ok (.iconst 1, 1) by decide +kernel) rfl rfl rfl ?_
    refine e_P (st' := [aI (q_and (q_shr v2 v4) 1)]) (show decode (mC 117) 56 = .ok (.iand, 1) by decide +kernel) rfl rfl rfl ?_
    refine e_P (st' := [aI 1, aI (q_and (q_shr v2 v4) 1)]) (show decode (mC 117) 57 = .ok (.iconst 1, 1) by decide +kernel) rfl rfl rfl ?_
    refine e_ne2 (t := 72) (show decode (mC 117) 58 = .ok (.if_icmp .ne 14, 3) by decide +kernel) (by decide) (s4 p1) (by decide) (fun p2 => ?_) (fun p2 => ?_)
    · refine e_L (L' := [some (aR 1), some (aI v1), some (aI v2), some (aI v3), some (aI (v4 + 1))]) (st' := []) (show decode (mC 117) 72 = .ok (.iinc 4 1, 3) by decide +kernel) rfl rfl ?_
      refine e_go (t := 39) (show decode (mC 117) 75 = .ok (.goto (-36), 3) by decide +kernel) (by decide) ?_
      exact (k5 p1 p2)
    · refine e_L (L' := [some (aR 1), some (aI v1), some (aI v2), some (aI v3), some (aI v4)]) (st' := [aI v3]) (show decode (mC 117) 61 = .ok (.iload_n 3, 1) by decide +kernel) rfl rfl ?_
      refine e_L (L' := [some (aR 1), some (aI v1), some (aI v2), some (aI v3), some (aI v4)]) (st' := [aI v1, aI v3]) (show decode (mC 117) 62 = .ok (.iload_n 1, 1) by decide +kernel) rfl rfl ?_
      refine e_ne2 (t := 69) (show decode (mC 117) 63 = .ok (.if_icmp .ne 6, 3) by decide +kernel) (by decide) (s6 p1 p2) (s7 p1 p2) (fun p3 => ?_) (fun p3 => ?_)
      · refine e_L (L' := [some (aR 1), some (aI v1), some (aI v2), some (aI (v3 + 1)), some (aI v4)]) (st' := []) (show decode (mC 117) 69 = .ok (.iinc 3 1, 3) by decide +kernel) rfl rfl ?_
        refine e_L (L' := [some (aR 1), some (aI v1), some (aI v2), some (aI (v3 + 1)), some (aI (v4 + 1))]) (st' := []) (show decode (mC 117) 72 = .ok (.iinc 4 1, 3) by decide +kernel) rfl rfl ?_
        refine e_go (t := 39) (show decode (mC 117) 75 = .ok (.goto (-36), 3) by decide +kernel) (by decide) ?_
        exact (k8 p1 p2 p3)
      · refine e_L (L' := [some (aR 1), some (aI v1), some (aI v2), some (aI v3), some (aI v4)]) (st' := [aI v4]) (show decode (mC 117) 66 = .ok (.iload 4, 2) by decide +kernel) rfl rfl ?_
        exact e_iret (show decode (mC 117) 68 = .ok (.ireturn, 1) by decide +kernel) rfl (z9 p1 p2 p3)
/-- SoulOffice.count(I)I, from 0 -/
theorem b118_0 (hG : Shp G) {v1 x1 x2 x3 x4 : Int}
    (s0 : -2147483648 ≤ v1 ∧ v1 < 2147483648)
    (z1 : (v1 < 0 ∨ 3 < v1) → Q (.inl (some (aI (-1)))) (G, c))
    (ex1 : c 9 0 = x1)
    (z3 : (v1 = 0) → Q (.inl (some (aI x1))) (G, c))
    (ex2 : c 9 1 = x2)
    (z5 : (v1 = 1) → Q (.inl (some (aI x2))) (G, c))
    (ex3 : c 9 2 = x3)
    (z7 : (v1 = 2) → Q (.inl (some (aI x3))) (G, c))
    (ex4 : c 2 1 = x4)
    (z9 : (v1 = 3) → Q (.inl (some (aI x4))) (G, c)) :
    T d 118 0 [some (aR 1), some (aI v1)] [] (G, c) Q := by
  refine e_L (L' := [some (aR 1), some (aI v1)]) (st' := [aI v1]) (show decode (mC 118) 0 = .ok (.iload_n 1, 1) by decide +kernel) rfl rfl ?_
  rcases (show (v1 < 0 ∨ 3 < v1) ∨ v1 = 0 ∨ v1 = 1 ∨ v1 = 2 ∨ v1 = 3 by omega) with p1 | p1 | p1 | p1 | p1
  · refine e_swd (t := 64) (show decode (mC 118) 1 = .ok (.tableswitch 63 0 3 #[31, 39, 47, 55], 31) by decide +kernel) s0 p1 (by decide) ?_
    refine e_P (st' := [aI (-1)]) (show decode (mC 118) 64 = .ok (.iconst (-1), 1) by decide +kernel) rfl rfl rfl ?_
    exact e_iret (show decode (mC 118) 65 = .ok (.ireturn, 1) by decide +kernel) rfl (z1 p1)
  · refine e_swj (off := 31) (t := 32) 0 (show decode (mC 118) 1 = .ok (.tableswitch 63 0 3 #[31, 39, 47, 55], 31) by decide +kernel) p1 (by decide +kernel) ?_
    refine e_L (L' := [some (aR 1), some (aI v1)]) (st' := [aR 1]) (show decode (mC 118) 32 = .ok (.aload_n 0, 1) by decide +kernel) rfl (by show (if 1 = 0 then none else some (_, _)) = _; rw [if_neg (by decide)]) ?_
    refine e_getR (w := 9) (show decode (mC 118) 33 = .ok (.getfield 27, 3) by decide +kernel) (show pl 11 27 = some (0, 11, 1, 0) by decide +kernel) (by decide) (sh_ok hG (by decide +kernel)) (sh_rf hG (by decide +kernel)) ?_
    refine e_getIx (show decode (mC 118) 36 = .ok (.getfield 184, 3) by decide +kernel) (show pl 11 184 = some (0, 8, 0, 0) by decide +kernel) (by decide) (sh_ok hG (by decide +kernel)) ex1 ?_
    exact e_iret (show decode (mC 118) 39 = .ok (.ireturn, 1) by decide +kernel) rfl (z3 p1)
  · refine e_swj (off := 39) (t := 40) 1 (show decode (mC 118) 1 = .ok (.tableswitch 63 0 3 #[31, 39, 47, 55], 31) by decide +kernel) p1 (by decide +kernel) ?_
    refine e_L (L' := [some (aR 1), some (aI v1)]) (st' := [aR 1]) (show decode (mC 118) 40 = .ok (.aload_n 0, 1) by decide +kernel) rfl (by show (if 1 = 0 then none else some (_, _)) = _; rw [if_neg (by decide)]) ?_
    refine e_getR (w := 9) (show decode (mC 118) 41 = .ok (.getfield 27, 3) by decide +kernel) (show pl 11 27 = some (0, 11, 1, 0) by decide +kernel) (by decide) (sh_ok hG (by decide +kernel)) (sh_rf hG (by decide +kernel)) ?_
    refine e_getIx (show decode (mC 118) 44 = .ok (.getfield 181, 3) by decide +kernel) (show pl 11 181 = some (0, 8, 1, 0) by decide +kernel) (by decide) (sh_ok hG (by decide +kernel)) ex2 ?_
    exact e_iret (show decode (mC 118) 47 = .ok (.ireturn, 1) by decide +kernel) rfl (z5 p1)
  · refine e_swj (off := 47) (t := 48) 2 (show decode (mC 118) 1 = .ok (.tableswitch 63 0 3 #[31, 39, 47, 55], 31) by decide +kernel) p1 (by decide +kernel) ?_
    refine e_L (L' := [some (aR 1), some (aI v1)]) (st' := [aR 1]) (show decode (mC 118) 48 = .ok (.aload_n 0, 1) by decide +kernel) rfl (by show (if 1 = 0 then none else some (_, _)) = _; rw [if_neg (by decide)]) ?_
    refine e_getR (w := 9) (show decode (mC 118) 49 = .ok (.getfield 27, 3) by decide +kernel) (show pl 11 27 = some (0, 11, 1, 0) by decide +kernel) (by decide) (sh_ok hG (by decide +kernel)) (sh_rf hG (by decide +kernel)) ?_
    refine e_getIx (show decode (mC 118) 52 = .ok (.getfield 187, 3) by decide +kernel) (show pl 11 187 = some (0, 8, 2, 0) by decide +kernel) (by decide) (sh_ok hG (by decide +kernel)) ex3 ?_
    exact e_iret (show decode (mC 118) 55 = .ok (.ireturn, 1) by decide +kernel) rfl (z7 p1)
  · refine e_swj (off := 55) (t := 56) 3 (show decode (mC 118) 1 = .ok (.tableswitch 63 0 3 #[31, 39, 47, 55], 31) by decide +kernel) p1 (by decide +kernel) ?_
    refine e_L (L' := [some (aR 1), some (aI v1)]) (st' := [aR 1]) (show decode (mC 118) 56 = .ok (.aload_n 0, 1) by decide +kernel) rfl (by show (if 1 = 0 then none else some (_, _)) = _; rw [if_neg (by decide)]) ?_
    refine e_getR (w := 2) (show decode (mC 118) 57 = .ok (.getfield 21, 3) by decide +kernel) (show pl 11 21 = some (0, 11, 0, 0) by decide +kernel) (by decide) (sh_ok hG (by decide +kernel)) (sh_rf hG (by decide +kernel)) ?_
    refine e_getIx (show decode (mC 118) 60 = .ok (.getfield 108, 3) by decide +kernel) (show pl 11 108 = some (0, 10, 1, 0) by decide +kernel) (by decide) (sh_ok hG (by decide +kernel)) ex4 ?_
    exact e_iret (show decode (mC 118) 63 = .ok (.ireturn, 1) by decide +kernel) rfl (z9 p1)
/-- SoulOffice.kind(II)I, from 0 -/
theorem b119_0 (hG : Shp G) {v1 v2 : Int}
    (m0 : TM d 70 [aR 9, aI v1] (G, c) (fun r h' => T (d + 1) 119 8 [some (aR 1), some (aI v1), some (aI v2)] (r.toList ++ []) h' Q)) :
    T (d + 1) 119 0 [some (aR 1), some (aI v1), some (aI v2)] [] (G, c) Q := by
  refine e_L (L' := [some (aR 1), some (aI v1), some (aI v2)]) (st' := [aR 1]) (show decode (mC 119) 0 = .ok (.aload_n 0, 1) by decide +kernel) rfl (by show (if 1 = 0 then none else some (_, _)) = _; rw [if_neg (by decide)]) ?_
  refine e_getR (w := 9) (show decode (mC 119) 1 = .ok (.getfield 27, 3) by decide +kernel) (show pl 11 27 = some (0, 11, 1, 0) by decide +kernel) (by decide) (sh_ok hG (by decide +kernel)) (sh_rf hG (by decide +kernel)) ?_
  refine e_L (L' := [some (aR 1), some (aI v1), some (aI v2)]) (st' := [aI v1, aR 9]) (show decode (mC 119) 4 = .ok (.iload_n 1, 1) by decide +kernel) rfl rfl ?_
  exact e_V (as := [aR 9, aI v1]) (rest := []) (show decode (mC 119) 5 = .ok (.invokevirtual 190, 3) by decide +kernel) (by decide +kernel) (show (decide ((2 : Nat) = mA 70) && decide (70 < q_law)) = true by decide +kernel) rfl (show (0 : Nat) ≤ 8 by decide) (show (2 : Nat) ≤ mL 70 by decide +kernel) rfl (sh_ok hG (by decide +kernel)) m0
/-- SoulOffice.kind(II)I, from 8 -/
theorem b119_8 (hG : Shp G) {v1 v2 u0 x1 x2 x3 : Int} (hQ : ∀ o o' h', q_eqo o o' → Q o h' → Q o' h')
    (s0 : -2147483648 ≤ u0 ∧ u0 < 2147483648)
    (s1 : (¬ u0 = 0) → -2147483648 ≤ v2 ∧ v2 < 2147483648)
    (z2 : (¬ u0 = 0) → (v2 < 0 ∨ 3 < v2) → Q (.inl (some (aI (-1)))) (G, c))
    (s3 : (¬ u0 = 0) → (v2 = 0) → 0 ≤ v1)
    (s4 : (¬ u0 = 0) → (v2 = 0) → v1 < 6)
    (ex1 : c 12 v1 = x1)
    (z6 : (¬ u0 = 0) → (v2 = 0) → Q (.inl (some (aI x1))) (G, c))
    (s7 : (¬ u0 = 0) → (v2 = 1) → 0 ≤ v1)
    (s8 : (¬ u0 = 0) → (v2 = 1) → v1 < 6)
    (ex2 : c 13 v1 = x2)
    (z10 : (¬ u0 = 0) → (v2 = 1) → Q (.inl (some (aI x2))) (G, c))
    (s11 : (¬ u0 = 0) → (v2 = 2) → 0 ≤ v1)
    (s12 : (¬ u0 = 0) → (v2 = 2) → v1 < 6)
    (ex3 : c 32 v1 = x3)
    (z14 : (¬ u0 = 0) → (v2 = 2) → Q (.inl (some (aI x3))) (G, c))
    (m15 : (¬ u0 = 0) → (v2 = 3) → TM d 28 [aR 27, aI v1] (G, c) (fun r h' => T (d + 1) 119 82 [none, none, none] (r.toList ++ []) h' Q))
    (z16 : (u0 = 0) → Q (.inl (some (aI (-1)))) (G, c)) :
    T (d + 1) 119 8 [some (aR 1), some (aI v1), some (aI v2)] [aI u0] (G, c) Q := by
  refine e_ne1 (t := 13) (show decode (mC 119) 8 = .ok (.ifCond .ne 5, 3) by decide +kernel) (by decide) s0 (fun p1 => ?_) (fun p1 => ?_)
  · refine e_L (L' := [some (aR 1), some (aI v1), some (aI v2)]) (st' := [aI v2]) (show decode (mC 119) 13 = .ok (.iload_n 2, 1) by decide +kernel) rfl rfl ?_
    rcases (show (v2 < 0 ∨ 3 < v2) ∨ v2 = 0 ∨ v2 = 1 ∨ v2 = 2 ∨ v2 = 3 by omega) with p2 | p2 | p2 | p2 | p2
    · refine e_swd (t := 83) (show decode (mC 119) 14 = .ok (.tableswitch 69 0 3 #[30, 40, 50, 60], 30) by decide +kernel) (s1 p1) p2 (by decide) ?_
      refine e_P (st' := [aI (-1)]) (show decode (mC 119) 83 = .ok (.iconst (-1), 1) by decide +kernel) rfl rfl rfl ?_
      exact e_iret (show decode (mC 119) 84 = .ok (.ireturn, 1) by decide +kernel) rfl (z2 p1 p2)
    · refine e_swj (off := 30) (t := 44) 0 (show decode (mC 119) 14 = .ok (.tableswitch 69 0 3 #[30, 40, 50, 60], 30) by decide +kernel) p2 (by decide +kernel) ?_
      refine e_L (L' := [some (aR 1), some (aI v1), some (aI v2)]) (st' := [aR 1]) (show decode (mC 119) 44 = .ok (.aload_n 0, 1) by decide +kernel) rfl (by show (if 1 = 0 then none else some (_, _)) = _; rw [if_neg (by decide)]) ?_
      refine e_getR (w := 9) (show decode (mC 119) 45 = .ok (.getfield 27, 3) by decide +kernel) (show pl 11 27 = some (0, 11, 1, 0) by decide +kernel) (by decide) (sh_ok hG (by decide +kernel)) (sh_rf hG (by decide +kernel)) ?_
      refine e_getR (w := 12) (show decode (mC 119) 48 = .ok (.getfield 194, 3) by decide +kernel) (show pl 11 194 = some (0, 8, 5, 0) by decide +kernel) (by decide) (sh_ok hG (by decide +kernel)) (sh_rf hG (by decide +kernel)) ?_
      refine e_L (L' := [some (aR 1), some (aI v1), some (aI v2)]) (st' := [aI v1, aR 12]) (show decode (mC 119) 51 = .ok (.iload_n 1, 1) by decide +kernel) rfl rfl ?_
      refine e_ialdx (n := 6) (show decode (mC 119) 52 = .ok (.iaload, 1) by decide +kernel) (sh_ok hG (by decide +kernel)) (sh_ln hG (by decide +kernel)) (by decide) (s3 p1 p2) (s4 p1 p2) ex1 ?_
      exact e_iret (show decode (mC 119) 53 = .ok (.ireturn, 1) by decide +kernel) rfl (z6 p1 p2)
    · refine e_swj (off := 40) (t := 54) 1 (show decode (mC 119) 14 = .ok (.tableswitch 69 0 3 #[30, 40, 50, 60], 30) by decide +kernel) p2 (by decide +kernel) ?_
      refine e_L (L' := [some (aR 1), some (aI v1), some (aI v2)]) (st' := [aR 1]) (show decode (mC 119) 54 = .ok (.aload_n 0, 1) by decide +kernel) rfl (by show (if 1 = 0 then none else some (_, _)) = _; rw [if_neg (by decide)]) ?_
      refine e_getR (w := 9) (show decode (mC 119) 55 = .ok (.getfield 27, 3) by decide +kernel) (show pl 11 27 = some (0, 11, 1, 0) by decide +kernel) (by decide) (sh_ok hG (by decide +kernel)) (sh_rf hG (by decide +kernel)) ?_
      refine e_getR (w := 13) (show decode (mC 119) 58 = .ok (.getfield 197, 3) by decide +kernel) (show pl 11 197 = some (0, 8, 6, 0) by decide +kernel) (by decide) (sh_ok hG (by decide +kernel)) (sh_rf hG (by decide +kernel)) ?_
      refine e_L (L' := [some (aR 1), some (aI v1), some (aI v2)]) (st' := [aI v1, aR 13]) (show decode (mC 119) 61 = .ok (.iload_n 1, 1) by decide +kernel) rfl rfl ?_
      refine e_ialdx (n := 6) (show decode (mC 119) 62 = .ok (.iaload, 1) by decide +kernel) (sh_ok hG (by decide +kernel)) (sh_ln hG (by decide +kernel)) (by decide) (s7 p1 p2) (s8 p1 p2) ex2 ?_
      exact e_iret (show decode (mC 119) 63 = .ok (.ireturn, 1) by decide +kernel) rfl (z10 p1 p2)
    · refine e_swj (off := 50) (t := 64) 2 (show decode (mC 119) 14 = .ok (.tableswitch 69 0 3 #[30, 40, 50, 60], 30) by decide +kernel) p2 (by decide +kernel) ?_
      refine e_L (L' := [some (aR 1), some (aI v1), some (aI v2)]) (st' := [aR 1]) (show decode (mC 119) 64 = .ok (.aload_n 0, 1) by decide +kernel) rfl (by show (if 1 = 0 then none else some (_, _)) = _; rw [if_neg (by decide)]) ?_
      refine e_getR (w := 27) (show decode (mC 119) 65 = .ok (.getfield 34, 3) by decide +kernel) (show pl 11 34 = some (0, 11, 3, 0) by decide +kernel) (by decide) (sh_ok hG (by decide +kernel)) (sh_rf hG (by decide +kernel)) ?_
      refine e_getR (w := 32) (show decode (mC 119) 68 = .ok (.getfield 200, 3) by decide +kernel) (show pl 11 200 = some (0, 4, 8, 0) by decide +kernel) (by decide) (sh_ok hG (by decide +kernel)) (sh_rf hG (by decide +kernel)) ?_
      refine e_L (L' := [some (aR 1), some (aI v1), some (aI v2)]) (st' := [aI v1, aR 32]) (show decode (mC 119) 71 = .ok (.iload_n 1, 1) by decide +kernel) rfl rfl ?_
      refine e_ialdx (n := 6) (show decode (mC 119) 72 = .ok (.iaload, 1) by decide +kernel) (sh_ok hG (by decide +kernel)) (sh_ln hG (by decide +kernel)) (by decide) (s11 p1 p2) (s12 p1 p2) ex3 ?_
      exact e_iret (show decode (mC 119) 73 = .ok (.ireturn, 1) by decide +kernel) rfl (z14 p1 p2)
    · refine e_swj (off := 60) (t := 74) 3 (show decode (mC 119) 14 = .ok (.tableswitch 69 0 3 #[30, 40, 50, 60], 30) by decide +kernel) p2 (by decide +kernel) ?_
      refine e_L (L' := [some (aR 1), some (aI v1), some (aI v2)]) (st' := [aR 1]) (show decode (mC 119) 74 = .ok (.aload_n 0, 1) by decide +kernel) rfl (by show (if 1 = 0 then none else some (_, _)) = _; rw [if_neg (by decide)]) ?_
      refine e_getR (w := 27) (show decode (mC 119) 75 = .ok (.getfield 34, 3) by decide +kernel) (show pl 11 34 = some (0, 11, 3, 0) by decide +kernel) (by decide) (sh_ok hG (by decide +kernel)) (sh_rf hG (by decide +kernel)) ?_
      refine e_L (L' := [some (aR 1), some (aI v1), some (aI v2)]) (st' := [aI v1, aR 27]) (show decode (mC 119) 78 = .ok (.iload_n 1, 1) by decide +kernel) rfl rfl ?_
      exact e_V (as := [aR 27, aI v1]) (rest := []) (show decode (mC 119) 79 = .ok (.invokevirtual 203, 3) by decide +kernel) (by decide +kernel) (show (decide ((2 : Nat) = mA 28) && decide (28 < q_law)) = true by decide +kernel) rfl (show (0 : Nat) ≤ 8 by decide) (show (2 : Nat) ≤ mL 28 by decide +kernel) rfl (sh_ok hG (by decide +kernel)) (tm_le hQ (leN (leN (leN leE))) (m15 p1 p2))
  · refine e_P (st' := [aI (-1)]) (show decode (mC 119) 11 = .ok (.iconst (-1), 1) by decide +kernel) rfl rfl rfl ?_
    exact e_iret (show decode (mC 119) 12 = .ok (.ireturn, 1) by decide +kernel) rfl (z16 p1)
/-- SoulOffice.kind(II)I, from 82 -/
theorem b119_82 (hG : Shp G) {u0 : Int}
    (z0 : Q (.inl (some (aI u0))) (G, c)) :
    T (d + 1) 119 82 [none, none, none] [aI u0] (G, c) Q := by
  exact e_iret (show decode (mC 119) 82 = .ok (.ireturn, 1) by decide +kernel) rfl z0
/-- SoulOffice.meets(II)I, from 0 -/
theorem b120_0 (hG : Shp G) {v1 v2 : Int}
    (m0 : TM d 70 [aR 9, aI v1] (G, c) (fun r h' => T (d + 1) 120 8 [some (aR 1), some (aI v1), some (aI v2)] (r.toList ++ []) h' Q)) :
    T (d + 1) 120 0 [some (aR 1), some (aI v1), some (aI v2)] [] (G, c) Q := by
  refine e_L (L' := [some (aR 1), some (aI v1), some (aI v2)]) (st' := [aR 1]) (show decode (mC 120) 0 = .ok (.aload_n 0, 1) by decide +kernel) rfl (by show (if 1 = 0 then none else some (_, _)) = _; rw [if_neg (by decide)]) ?_
  refine e_getR (w := 9) (show decode (mC 120) 1 = .ok (.getfield 27, 3) by decide +kernel) (show pl 11 27 = some (0, 11, 1, 0) by decide +kernel) (by decide) (sh_ok hG (by decide +kernel)) (sh_rf hG (by decide +kernel)) ?_
  refine e_L (L' := [some (aR 1), some (aI v1), some (aI v2)]) (st' := [aI v1, aR 9]) (show decode (mC 120) 4 = .ok (.iload_n 1, 1) by decide +kernel) rfl rfl ?_
  exact e_V (as := [aR 9, aI v1]) (rest := []) (show decode (mC 120) 5 = .ok (.invokevirtual 190, 3) by decide +kernel) (by decide +kernel) (show (decide ((2 : Nat) = mA 70) && decide (70 < q_law)) = true by decide +kernel) rfl (show (0 : Nat) ≤ 8 by decide) (show (2 : Nat) ≤ mL 70 by decide +kernel) rfl (sh_ok hG (by decide +kernel)) m0
/-- SoulOffice.meets(II)I, from 8 -/
theorem b120_8 (hG : Shp G) {v1 v2 u0 : Int}
    (s0 : -2147483648 ≤ u0 ∧ u0 < 2147483648)
    (z1 : (u0 = 0) → Q (.inl (some (aI (-1)))) (G, c))
    (m2 : (¬ u0 = 0) → TM d 70 [aR 9, aI v2] (G, c) (fun r h' => T (d + 1) 120 19 [some (aR 1), some (aI v1), some (aI v2)] (r.toList ++ []) h' Q)) :
    T (d + 1) 120 8 [some (aR 1), some (aI v1), some (aI v2)] [aI u0] (G, c) Q := by
  refine e_eq1 (t := 38) (show decode (mC 120) 8 = .ok (.ifCond .eq 30, 3) by decide +kernel) (by decide) s0 (fun p1 => ?_) (fun p1 => ?_)
  · refine e_P (st' := [aI (-1)]) (show decode (mC 120) 38 = .ok (.iconst (-1), 1) by decide +kernel) rfl rfl rfl ?_
    exact e_iret (show decode (mC 120) 39 = .ok (.ireturn, 1) by decide +kernel) rfl (z1 p1)
  · refine e_L (L' := [some (aR 1), some (aI v1), some (aI v2)]) (st' := [aR 1]) (show decode (mC 120) 11 = .ok (.aload_n 0, 1) by decide +kernel) rfl (by show (if 1 = 0 then none else some (_, _)) = _; rw [if_neg (by decide)]) ?_
    refine e_getR (w := 9) (show decode (mC 120) 12 = .ok (.getfield 27, 3) by decide +kernel) (show pl 11 27 = some (0, 11, 1, 0) by decide +kernel) (by decide) (sh_ok hG (by decide +kernel)) (sh_rf hG (by decide +kernel)) ?_
    refine e_L (L' := [some (aR 1), some (aI v1), some (aI v2)]) (st' := [aI v2, aR 9]) (show decode (mC 120) 15 = .ok (.iload_n 2, 1) by decide +kernel) rfl rfl ?_
    exact e_V (as := [aR 9, aI v2]) (rest := []) (show decode (mC 120) 16 = .ok (.invokevirtual 190, 3) by decide +kernel) (by decide +kernel) (show (decide ((2 : Nat) = mA 70) && decide (70 < q_law)) = true by decide +kernel) rfl (show (0 : Nat) ≤ 8 by decide) (show (2 : Nat) ≤ mL 70 by decide +kernel) rfl (sh_ok hG (by decide +kernel)) (m2 p1)
/-- SoulOffice.meets(II)I, from 19 -/
theorem b120_19 (hG : Shp G) {v1 v2 u0 : Int} (hQ : ∀ o o' h', q_eqo o o' → Q o h' → Q o' h')
    (s0 : -2147483648 ≤ u0 ∧ u0 < 2147483648)
    (z1 : (u0 = 0) → Q (.inl (some (aI (-1)))) (G, c))
    (m2 : (¬ u0 = 0) → TM d 152 [aI v1, aI v2] (G, c) (fun r h' => T (d + 1) 120 34 [none, none, none] (r.toList ++ [aR 14]) h' Q)) :
    T (d + 1) 120 19 [some (aR 1), some (aI v1), some (aI v2)] [aI u0] (G, c) Q := by
  refine e_eq1 (t := 38) (show decode (mC 120) 19 = .ok (.ifCond .eq 19, 3) by decide +kernel) (by decide) s0 (fun p1 => ?_) (fun p1 => ?_)
  · refine e_P (st' := [aI (-1)]) (show decode (mC 120) 38 = .ok (.iconst (-1), 1) by decide +kernel) rfl rfl rfl ?_
    exact e_iret (show decode (mC 120) 39 = .ok (.ireturn, 1) by decide +kernel) rfl (z1 p1)
  · refine e_L (L' := [some (aR 1), some (aI v1), some (aI v2)]) (st' := [aR 1]) (show decode (mC 120) 22 = .ok (.aload_n 0, 1) by decide +kernel) rfl (by show (if 1 = 0 then none else some (_, _)) = _; rw [if_neg (by decide)]) ?_
    refine e_getR (w := 9) (show decode (mC 120) 23 = .ok (.getfield 27, 3) by decide +kernel) (show pl 11 27 = some (0, 11, 1, 0) by decide +kernel) (by decide) (sh_ok hG (by decide +kernel)) (sh_rf hG (by decide +kernel)) ?_
    refine e_getR (w := 14) (show decode (mC 120) 26 = .ok (.getfield 206, 3) by decide +kernel) (show pl 11 206 = some (0, 8, 7, 0) by decide +kernel) (by decide) (sh_ok hG (by decide +kernel)) (sh_rf hG (by decide +kernel)) ?_
    refine e_L (L' := [some (aR 1), some (aI v1), some (aI v2)]) (st' := [aI v1, aR 14]) (show decode (mC 120) 29 = .ok (.iload_n 1, 1) by decide +kernel) rfl rfl ?_
    refine e_L (L' := [some (aR 1), some (aI v1), some (aI v2)]) (st' := [aI v2, aI v1, aR 14]) (show decode (mC 120) 30 = .ok (.iload_n 2, 1) by decide +kernel) rfl rfl ?_
    exact e_S (as := [aI v1, aI v2]) (rest := [aR 14]) (show decode (mC 120) 31 = .ok (.invokestatic 209, 3) by decide +kernel) (by decide +kernel) (show (decide ((2 : Nat) = mA 152) && decide (152 < q_law)) = true by decide +kernel) rfl (show (1 : Nat) ≤ 8 by decide) (show (2 : Nat) ≤ mL 152 by decide +kernel) (tm_le hQ (leN (leN (leN leE))) (m2 p1))
/-- SoulOffice.meets(II)I, from 34 -/
theorem b120_34 (hG : Shp G) {u1 x1 : Int}
    (s0 : 0 ≤ u1)
    (s1 : u1 < 36)
    (ex1 : c 14 u1 = x1)
    (z3 : Q (.inl (some (aI x1))) (G, c)) :
    T (d + 1) 120 34 [none, none, none] [aI u1, aR 14] (G, c) Q := by
  refine e_ialdx (n := 36) (show decode (mC 120) 34 = .ok (.iaload, 1) by decide +kernel) (sh_ok hG (by decide +kernel)) (sh_ln hG (by decide +kernel)) (by decide) s0 s1 ex1 ?_
  refine e_go (t := 39) (show decode (mC 120) 35 = .ok (.goto 4, 3) by decide +kernel) (by decide) ?_
  exact e_iret (show decode (mC 120) 39 = .ok (.ireturn, 1) by decide +kernel) rfl z3
/-- SoulOffice.soul(II)I, from 0 -/
theorem b121_0 (hG : Shp G) {v1 v2 : Int}
    (m0 : TM d 71 [aR 9, aI v1] (G, c) (fun r h' => T (d + 1) 121 8 [some (aR 1), some (aI v1), some (aI v2)] (r.toList ++ []) h' Q)) :
    T (d + 1) 121 0 [some (aR 1), some (aI v1), some (aI v2)] [] (G, c) Q := by
  refine e_L (L' := [some (aR 1), some (aI v1), some (aI v2)]) (st' := [aR 1]) (show decode (mC 121) 0 = .ok (.aload_n 0, 1) by decide +kernel) rfl (by show (if 1 = 0 then none else some (_, _)) = _; rw [if_neg (by decide)]) ?_
  refine e_getR (w := 9) (show decode (mC 121) 1 = .ok (.getfield 27, 3) by decide +kernel) (show pl 11 27 = some (0, 11, 1, 0) by decide +kernel) (by decide) (sh_ok hG (by decide +kernel)) (sh_rf hG (by decide +kernel)) ?_
  refine e_L (L' := [some (aR 1), some (aI v1), some (aI v2)]) (st' := [aI v1, aR 9]) (show decode (mC 121) 4 = .ok (.iload_n 1, 1) by decide +kernel) rfl rfl ?_
  exact e_V (as := [aR 9, aI v1]) (rest := []) (show decode (mC 121) 5 = .ok (.invokevirtual 213, 3) by decide +kernel) (by decide +kernel) (show (decide ((2 : Nat) = mA 71) && decide (71 < q_law)) = true by decide +kernel) rfl (show (0 : Nat) ≤ 8 by decide) (show (2 : Nat) ≤ mL 71 by decide +kernel) rfl (sh_ok hG (by decide +kernel)) m0
/-- SoulOffice.soul(II)I, from 8 -/
theorem b121_8 (hG : Shp G) {v1 v2 u0 x1 x2 x3 x4 x5 x6 : Int} (hQ : ∀ o o' h', q_eqo o o' → Q o h' → Q o' h')
    (s0 : -2147483648 ≤ u0 ∧ u0 < 2147483648)
    (z1 : (u0 = 0) → Q (.inr (21, [some (aR 1), some (aI v1), some (aI v2)])) (G, c))
    (s2 : (¬ u0 = 0) → -2147483648 ≤ v2 ∧ v2 < 2147483648)
    (z3 : (¬ u0 = 0) → (v2 < 0) → Q (.inr (21, [some (aR 1), some (aI v1), some (aI v2)])) (G, c))
    (s4 : (¬ u0 = 0) → (0 ≤ v2) → (v2 ≤ 7) → (v2 < 0 ∨ 6 < v2) → 0 ≤ v1)
    (s5 : (¬ u0 = 0) → (0 ≤ v2) → (v2 ≤ 7) → (v2 < 0 ∨ 6 < v2) → v1 < 8)
    (ex1 : c 31 v1 = x1)
    (z7 : (¬ u0 = 0) → (0 ≤ v2) → (v2 ≤ 7) → (v2 < 0 ∨ 6 < v2) → Q (.inl (some (aI x1))) (G, c))
    (s8 : (¬ u0 = 0) → (0 ≤ v2) → (v2 ≤ 7) → (v2 = 0) → 0 ≤ v1)
    (s9 : (¬ u0 = 0) → (0 ≤ v2) → (v2 ≤ 7) → (v2 = 0) → v1 < 8)
    (ex2 : c 28 v1 = x2)
    (z11 : (¬ u0 = 0) → (0 ≤ v2) → (v2 ≤ 7) → (v2 = 0) → Q (.inl (some (aI x2))) (G, c))
    (s12 : (¬ u0 = 0) → (0 ≤ v2) → (v2 ≤ 7) → (v2 = 1) → 0 ≤ v1)
    (s13 : (¬ u0 = 0) → (0 ≤ v2) → (v2 ≤ 7) → (v2 = 1) → v1 < 8)
    (ex3 : c 29 v1 = x3)
    (z15 : (¬ u0 = 0) → (0 ≤ v2) → (v2 ≤ 7) → (v2 = 1) → Q (.inl (some (aI x3))) (G, c))
    (s16 : (¬ u0 = 0) → (0 ≤ v2) → (v2 ≤ 7) → (v2 = 2) → 0 ≤ v1)
    (s17 : (¬ u0 = 0) → (0 ≤ v2) → (v2 ≤ 7) → (v2 = 2) → v1 < 8)
    (ex4 : c 30 v1 = x4)
    (z19 : (¬ u0 = 0) → (0 ≤ v2) → (v2 ≤ 7) → (v2 = 2) → Q (.inl (some (aI x4))) (G, c))
    (s20 : (¬ u0 = 0) → (0 ≤ v2) → (v2 ≤ 7) → (v2 = 3) → 0 ≤ v1)
    (s21 : (¬ u0 = 0) → (0 ≤ v2) → (v2 ≤ 7) → (v2 = 3) → v1 < 8)
    (ex5 : c 15 v1 = x5)
    (z23 : (¬ u0 = 0) → (0 ≤ v2) → (v2 ≤ 7) → (v2 = 3) → Q (.inl (some (aI x5))) (G, c))
    (s24 : (¬ u0 = 0) → (0 ≤ v2) → (v2 ≤ 7) → (v2 = 4) → 0 ≤ v1)
    (s25 : (¬ u0 = 0) → (0 ≤ v2) → (v2 ≤ 7) → (v2 = 4) → v1 < 8)
    (ex6 : c 16 v1 = x6)
    (z27 : (¬ u0 = 0) → (0 ≤ v2) → (v2 ≤ 7) → (v2 = 4) → Q (.inl (some (aI x6))) (G, c))
    (m28 : (¬ u0 = 0) → (0 ≤ v2) → (v2 ≤ 7) → (v2 = 5) → TM d 22 [aR 27, aI v1] (G, c) (fun r h' => T (d + 1) 121 130 [none, none, none] (r.toList ++ []) h' Q))
    (m29 : (¬ u0 = 0) → (0 ≤ v2) → (v2 ≤ 7) → (v2 = 6) → TM d 23 [aR 27, aI v1] (G, c) (fun r h' => T (d + 1) 121 139 [none, none, none] (r.toList ++ []) h' Q))
    (z30 : (¬ u0 = 0) → (0 ≤ v2) → (7 < v2) → Q (.inr (21, [some (aR 1), some (aI v1), some (aI v2)])) (G, c)) :
    T (d + 1) 121 8 [some (aR 1), some (aI v1), some (aI v2)] [aI u0] (G, c) Q := by
  refine e_eq1 (t := 21) (show decode (mC 121) 8 = .ok (.ifCond .eq 13, 3) by decide +kernel) (by decide) s0 (fun p1 => ?_) (fun p1 => ?_)
  · exact e_X (show decode (mC 121) 21 = .ok (.new 216, 3) by decide +kernel) (by decide +kernel) (by decide +kernel) (z1 p1)
  · refine e_L (L' := [some (aR 1), some (aI v1), some (aI v2)]) (st' := [aI v2]) (show decode (mC 121) 11 = .ok (.iload_n 2, 1) by decide +kernel) rfl rfl ?_
    refine e_lt1 (t := 21) (show decode (mC 121) 12 = .ok (.ifCond .lt 9, 3) by decide +kernel) (by decide) (s2 p1) (fun p2 => ?_) (fun p2 => ?_)
    · exact e_X (show decode (mC 121) 21 = .ok (.new 216, 3) by decide +kernel) (by decide +kernel) (by decide +kernel) (z3 p1 p2)
    · refine e_L (L' := [some (aR 1), some (aI v1), some (aI v2)]) (st' := [aI v2]) (show decode (mC 121) 15 = .ok (.iload_n 2, 1) by decide +kernel) rfl rfl ?_
      refine e_P (st' := [aI 7, aI v2]) (show decode (mC 121) 16 = .ok (.bipush 7, 2) by decide +kernel) rfl rfl rfl ?_
      refine e_le2 (t := 29) (show decode (mC 121) 18 = .ok (.if_icmp .le 11, 3) by decide +kernel) (by decide) (s2 p1) (by decide) (fun p3 => ?_) (fun p3 => ?_)
      · refine e_L (L' := [some (aR 1), some (aI v1), some (aI v2)]) (st' := [aI v2]) (show decode (mC 121) 29 = .ok (.iload_n 2, 1) by decide +kernel) rfl rfl ?_
        rcases (show (v2 < 0 ∨ 6 < v2) ∨ v2 = 0 ∨ v2 = 1 ∨ v2 = 2 ∨ v2 = 3 ∨ v2 = 4 ∨ v2 = 5 ∨ v2 = 6 by omega) with p4 | p4 | p4 | p4 | p4 | p4 | p4 | p4
        · refine e_swd (t := 140) (show decode (mC 121) 30 = .ok (.tableswitch 110 0 6 #[42, 52, 62, 72, 82, 92, 101], 42) by decide +kernel) (s2 p1) p4 (by decide) ?_
          refine e_L (L' := [some (aR 1), some (aI v1), some (aI v2)]) (st' := [aR 1]) (show decode (mC 121) 140 = .ok (.aload_n 0, 1) by decide +kernel) rfl (by show (if 1 = 0 then none else some (_, _)) = _; rw [if_neg (by decide)]) ?_
          refine e_getR (w := 27) (show decode (mC 121) 141 = .ok (.getfield 34, 3) by decide +kernel) (show pl 11 34 = some (0, 11, 3, 0) by decide +kernel) (by decide) (sh_ok hG (by decide +kernel)) (sh_rf hG (by decide +kernel)) ?_
          refine e_getR (w := 31) (show decode (mC 121) 144 = .ok (.getfield 240, 3) by decide +kernel) (show pl 11 240 = some (0, 4, 7, 0) by decide +kernel) (by decide) (sh_ok hG (by decide +kernel)) (sh_rf hG (by decide +kernel)) ?_
          refine e_L (L' := [some (aR 1), some (aI v1), some (aI v2)]) (st' := [aI v1, aR 31]) (show decode (mC 121) 147 = .ok (.iload_n 1, 1) by decide +kernel) rfl rfl ?_
          refine e_ialdx (n := 8) (show decode (mC 121) 148 = .ok (.iaload, 1) by decide +kernel) (sh_ok hG (by decide +kernel)) (sh_ln hG (by decide +kernel)) (by decide) (s4 p1 p2 p3 p4) (s5 p1 p2 p3 p4) ex1 ?_
          exact e_iret (show decode (mC 121) 149 = .ok (.ireturn, 1) by decide +kernel) rfl (z7 p1 p2 p3 p4)
        · refine e_swj (off := 42) (t := 72) 0 (show decode (mC 121) 30 = .ok (.tableswitch 110 0 6 #[42, 52, 62, 72, 82, 92, 101], 42) by decide +kernel) p4 (by decide +kernel) ?_
          refine e_L (L' := [some (aR 1), some (aI v1), some (aI v2)]) (st' := [aR 1]) (show decode (mC 121) 72 = .ok (.aload_n 0, 1) by decide +kernel) rfl (by show (if 1 = 0 then none else some (_, _)) = _; rw [if_neg (by decide)]) ?_
          refine e_getR (w := 27) (show decode (mC 121) 73 = .ok (.getfield 34, 3) by decide +kernel) (show pl 11 34 = some (0, 11, 3, 0) by decide +kernel) (by decide) (sh_ok hG (by decide +kernel)) (sh_rf hG (by decide +kernel)) ?_
          refine e_getR (w := 28) (show decode (mC 121) 76 = .ok (.getfield 219, 3) by decide +kernel) (show pl 11 219 = some (0, 4, 4, 0) by decide +kernel) (by decide) (sh_ok hG (by decide +kernel)) (sh_rf hG (by decide +kernel)) ?_
          refine e_L (L' := [some (aR 1), some (aI v1), some (aI v2)]) (st' := [aI v1, aR 28]) (show decode (mC 121) 79 = .ok (.iload_n 1, 1) by decide +kernel) rfl rfl ?_
          refine e_ialdx (n := 8) (show decode (mC 121) 80 = .ok (.iaload, 1) by decide +kernel) (sh_ok hG (by decide +kernel)) (sh_ln hG (by decide +kernel)) (by decide) (s8 p1 p2 p3 p4) (s9 p1 p2 p3 p4) ex2 ?_
          exact e_iret (show decode (mC 121) 81 = .ok (.ireturn, 1) by decide +kernel) rfl (z11 p1 p2 p3 p4)
        · refine e_swj (off := 52) (t := 82) 1 (show decode (mC 121) 30 = .ok (.tableswitch 110 0 6 #[42, 52, 62, 72, 82, 92, 101], 42) by decide +kernel) p4 (by decide +kernel) ?_
          refine e_L (L' := [some (aR 1), some (aI v1), some (aI v2)]) (st' := [aR 1]) (show decode (mC 121) 82 = .ok (.aload_n 0, 1) by decide +kernel) rfl (by show (if 1 = 0 then none else some (_, _)) = _; rw [if_neg (by decide)]) ?_
          refine e_getR (w := 27) (show decode (mC 121) 83 = .ok (.getfield 34, 3) by decide +kernel) (show pl 11 34 = some (0, 11, 3, 0) by decide +kernel) (by decide) (sh_ok hG (by decide +kernel)) (sh_rf hG (by decide +kernel)) ?_
          refine e_getR (w := 29) (show decode (mC 121) 86 = .ok (.getfield 222, 3) by decide +kernel) (show pl 11 222 = some (0, 4, 5, 0) by decide +kernel) (by decide) (sh_ok hG (by decide +kernel)) (sh_rf hG (by decide +kernel)) ?_
          refine e_L (L' := [some (aR 1), some (aI v1), some (aI v2)]) (st' := [aI v1, aR 29]) (show decode (mC 121) 89 = .ok (.iload_n 1, 1) by decide +kernel) rfl rfl ?_
          refine e_ialdx (n := 8) (show decode (mC 121) 90 = .ok (.iaload, 1) by decide +kernel) (sh_ok hG (by decide +kernel)) (sh_ln hG (by decide +kernel)) (by decide) (s12 p1 p2 p3 p4) (s13 p1 p2 p3 p4) ex3 ?_
          exact e_iret (show decode (mC 121) 91 = .ok (.ireturn, 1) by decide +kernel) rfl (z15 p1 p2 p3 p4)
        · refine e_swj (off := 62) (t := 92) 2 (show decode (mC 121) 30 = .ok (.tableswitch 110 0 6 #[42, 52, 62, 72, 82, 92, 101], 42) by decide +kernel) p4 (by decide +kernel) ?_
          refine e_L (L' := [some (aR 1), some (aI v1), some (aI v2)]) (st' := [aR 1]) (show decode (mC 121) 92 = .ok (.aload_n 0, 1) by decide +kernel) rfl (by show (if 1 = 0 then none else some (_, _)) = _; rw [if_neg (by decide)]) ?_
          refine e_getR (w := 27) (show decode (mC 121) 93 = .ok (.getfield 34, 3) by decide +kernel) (show pl 11 34 = some (0, 11, 3, 0) by decide +kernel) (by decide) (sh_ok hG (by decide +kernel)) (sh_rf hG (by decide +kernel)) ?_
          refine e_getR (w := 30) (show decode (mC 121) 96 = .ok (.getfield 225, 3) by decide +kernel) (show pl 11 225 = some (0, 4, 6, 0) by decide +kernel) (by decide) (sh_ok hG (by decide +kernel)) (sh_rf hG (by decide +kernel)) ?_
          refine e_L (L' := [some (aR 1), some (aI v1), some (aI v2)]) (st' := [aI v1, aR 30]) (show decode (mC 121) 99 = .ok (.iload_n 1, 1) by decide +kernel) rfl rfl ?_
          refine e_ialdx (n := 8) (show decode (mC 121) 100 = .ok (.iaload, 1) by decide +kernel) (sh_ok hG (by decide +kernel)) (sh_ln hG (by decide +kernel)) (by decide) (s16 p1 p2 p3 p4) (s17 p1 p2 p3 p4) ex4 ?_
          exact e_iret (show decode (mC 121) 101 = .ok (.ireturn, 1) by decide +kernel) rfl (z19 p1 p2 p3 p4)
        · refine e_swj (off := 72) (t := 102) 3 (show decode (mC 121) 30 = .ok (.tableswitch 110 0 6 #[42, 52, 62, 72, 82, 92, 101], 42) by decide +kernel) p4 (by decide +kernel) ?_
          refine e_L (L' := [some (aR 1), some (aI v1), some (aI v2)]) (st' := [aR 1]) (show decode (mC 121) 102 = .ok (.aload_n 0, 1) by decide +kernel) rfl (by show (if 1 = 0 then none else some (_, _)) = _; rw [if_neg (by decide)]) ?_
          refine e_getR (w := 9) (show decode (mC 121) 103 = .ok (.getfield 27, 3) by decide +kernel) (show pl 11 27 = some (0, 11, 1, 0) by decide +kernel) (by decide) (sh_ok hG (by decide +kernel)) (sh_rf hG (by decide +kernel)) ?_
          refine e_getR (w := 15) (show decode (mC 121) 106 = .ok (.getfield 228, 3) by decide +kernel) (show pl 11 228 = some (0, 8, 8, 0) by decide +kernel) (by decide) (sh_ok hG (by decide +kernel)) (sh_rf hG (by decide +kernel)) ?_
          refine e_L (L' := [some (aR 1), some (aI v1), some (aI v2)]) (st' := [aI v1, aR 15]) (show decode (mC 121) 109 = .ok (.iload_n 1, 1) by decide +kernel) rfl rfl ?_
          refine e_ialdx (n := 8) (show decode (mC 121) 110 = .ok (.iaload, 1) by decide +kernel) (sh_ok hG (by decide +kernel)) (sh_ln hG (by decide +kernel)) (by decide) (s20 p1 p2 p3 p4) (s21 p1 p2 p3 p4) ex5 ?_
          exact e_iret (show decode (mC 121) 111 = .ok (.ireturn, 1) by decide +kernel) rfl (z23 p1 p2 p3 p4)
        · refine e_swj (off := 82) (t := 112) 4 (show decode (mC 121) 30 = .ok (.tableswitch 110 0 6 #[42, 52, 62, 72, 82, 92, 101], 42) by decide +kernel) p4 (by decide +kernel) ?_
          refine e_L (L' := [some (aR 1), some (aI v1), some (aI v2)]) (st' := [aR 1]) (show decode (mC 121) 112 = .ok (.aload_n 0, 1) by decide +kernel) rfl (by show (if 1 = 0 then none else some (_, _)) = _; rw [if_neg (by decide)]) ?_
          refine e_getR (w := 9) (show decode (mC 121) 113 = .ok (.getfield 27, 3) by decide +kernel) (show pl 11 27 = some (0, 11, 1, 0) by decide +kernel) (by decide) (sh_ok hG (by decide +kernel)) (sh_rf hG (by decide +kernel)) ?_
          refine e_getR (w := 16) (show decode (mC 121) 116 = .ok (.getfield 231, 3) by decide +kernel) (show pl 11 231 = some (0, 8, 9, 0) by decide +kernel) (by decide) (sh_ok hG (by decide +kernel)) (sh_rf hG (by decide +kernel)) ?_
          refine e_L (L' := [some (aR 1), some (aI v1), some (aI v2)]) (st' := [aI v1, aR 16]) (show decode (mC 121) 119 = .ok (.iload_n 1, 1) by decide +kernel) rfl rfl ?_
          refine e_ialdx (n := 8) (show decode (mC 121) 120 = .ok (.iaload, 1) by decide +kernel) (sh_ok hG (by decide +kernel)) (sh_ln hG (by decide +kernel)) (by decide) (s24 p1 p2 p3 p4) (s25 p1 p2 p3 p4) ex6 ?_
          exact e_iret (show decode (mC 121) 121 = .ok (.ireturn, 1) by decide +kernel) rfl (z27 p1 p2 p3 p4)
        · refine e_swj (off := 92) (t := 122) 5 (show decode (mC 121) 30 = .ok (.tableswitch 110 0 6 #[42, 52, 62, 72, 82, 92, 101], 42) by decide +kernel) p4 (by decide +kernel) ?_
          refine e_L (L' := [some (aR 1), some (aI v1), some (aI v2)]) (st' := [aR 1]) (show decode (mC 121) 122 = .ok (.aload_n 0, 1) by decide +kernel) rfl (by show (if 1 = 0 then none else some (_, _)) = _; rw [if_neg (by decide)]) ?_
          refine e_getR (w := 27) (show decode (mC 121) 123 = .ok (.getfield 34, 3) by decide +kernel) (show pl 11 34 = some (0, 11, 3, 0) by decide +kernel) (by decide) (sh_ok hG (by decide +kernel)) (sh_rf hG (by decide +kernel)) ?_
          refine e_L (L' := [some (aR 1), some (aI v1), some (aI v2)]) (st' := [aI v1, aR 27]) (show decode (mC 121) 126 = .ok (.iload_n 1, 1) by decide +kernel) rfl rfl ?_
          exact e_V (as := [aR 27, aI v1]) (rest := []) (show decode (mC 121) 127 = .ok (.invokevirtual 234, 3) by decide +kernel) (by decide +kernel) (show (decide ((2 : Nat) = mA 22) && decide (22 < q_law)) = true by decide +kernel) rfl (show (0 : Nat) ≤ 8 by decide) (show (2 : Nat) ≤ mL 22 by decide +kernel) rfl (sh_ok hG (by decide +kernel)) (tm_le hQ (leN (leN (leN leE))) (m28 p1 p2 p3 p4))
        · refine e_swj (off := 101) (t := 131) 6 (show decode (mC 121) 30 = .ok (.tableswitch 110 0 6 #[42, 52, 62, 72, 82, 92, 101], 42) by decide +kernel) p4 (by decide +kernel) ?_
          refine e_L (L' := [some (aR 1), some (aI v1), some (aI v2)]) (st' := [aR 1]) (show decode (mC 121) 131 = .ok (.aload_n 0, 1) by decide +kernel) rfl (by show (if 1 = 0 then none else some (_, _)) = _; rw [if_neg (by decide)]) ?_
          refine e_getR (w := 27) (show decode (mC 121) 132 = .ok (.getfield 34, 3) by decide +kernel) (show pl 11 34 = some (0, 11, 3, 0) by decide +kernel) (by decide) (sh_ok hG (by decide +kernel)) (sh_rf hG (by decide +kernel)) ?_
          refine e_L (L' := [some (aR 1), some (aI v1), some (aI v2)]) (st' := [aI v1, aR 27]) (show decode (mC 121) 135 = .ok (.iload_n 1, 1) by decide +kernel) rfl rfl ?_
          exact e_V (as := [aR 27, aI v1]) (rest := []) (show decode (mC 121) 136 = .ok (.invokevirtual 237, 3) by decide +kernel) (by decide +kernel) (show (decide ((2 : Nat) = mA 23) && decide (23 < q_law)) = true by decide +kernel) rfl (show (0 : Nat) ≤ 8 by decide) (show (2 : Nat) ≤ mL 23 by decide +kernel) rfl (sh_ok hG (by decide +kernel)) (tm_le hQ (leN (leN (leN leE))) (m29 p1 p2 p3 p4))
      · exact e_X (show decode (mC 121) 21 = .ok (.new 216, 3) by decide +kernel) (by decide +kernel) (by decide +kernel) (z30 p1 p2 p3)
/-- SoulOffice.soul(II)I, from 130 -/
theorem b121_130 (hG : Shp G) {u0 : Int}
    (z0 : Q (.inl (some (aI u0))) (G, c)) :
    T (d + 1) 121 130 [none, none, none] [aI u0] (G, c) Q := by
  exact e_iret (show decode (mC 121) 130 = .ok (.ireturn, 1) by decide +kernel) rfl z0
/-- SoulOffice.soul(II)I, from 139 -/
theorem b121_139 (hG : Shp G) {u0 : Int}
    (z0 : Q (.inl (some (aI u0))) (G, c)) :
    T (d + 1) 121 139 [none, none, none] [aI u0] (G, c) Q := by
  exact e_iret (show decode (mC 121) 139 = .ok (.ireturn, 1) by decide +kernel) rfl z0
end QB17
