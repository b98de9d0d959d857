section QB32
variable {d : Nat} {G : GG} {c : CC} {Q : OO → HH → Prop}
/-- SoulOfficeModel.bookLine()Z, from 168 -/
theorem b248_168 (hG : Shp G) {v1 x1 : Int}
    (ex1 : c 190 0 = x1)
    (m1 : TM d 181 [aR 188, aI 0, aI x1] (G, c) (fun r h' => T (d + 1) 248 179 [some (aR 188), some (aI v1)] (r.toList ++ []) h' Q)) :
    T (d + 1) 248 168 [some (aR 188), some (aI v1)] [] (G, c) Q := by
  refine e_L (L' := [some (aR 188), some (aI v1)]) (st' := [aR 188]) (show decode (mC 248) 168 = .ok (.aload_n 0, 1) by decide +kernel) rfl (by show (if 188 = 0 then none else some (_, _)) = _; rw [if_neg (by decide)]) ?_
  refine e_P (st' := [aI 0, aR 188]) (show decode (mC 248) 169 = .ok (.iconst 0, 1) by decide +kernel) rfl rfl rfl ?_
  refine e_L (L' := [some (aR 188), some (aI v1)]) (st' := [aR 188, aI 0, aR 188]) (show decode (mC 248) 170 = .ok (.aload_n 0, 1) by decide +kernel) rfl (by show (if 188 = 0 then none else some (_, _)) = _; rw [if_neg (by decide)]) ?_
  refine e_getR (w := 190) (show decode (mC 248) 171 = .ok (.getfield 33, 3) by decide +kernel) (show pl 12 33 = some (0, 12, 6, 0) by decide +kernel) (by decide) (sh_ok hG (by decide +kernel)) (sh_rf hG (by decide +kernel)) ?_
  refine e_P (st' := [aI 0, aR 190, aI 0, aR 188]) (show decode (mC 248) 174 = .ok (.iconst 0, 1) by decide +kernel) rfl rfl rfl ?_
  refine e_ialdx (n := 514) (show decode (mC 248) 175 = .ok (.iaload, 1) by decide +kernel) (sh_ok hG (by decide +kernel)) (sh_ln hG (by decide +kernel)) (by decide) (by decide) (by decide) ex1 ?_
  exact e_V (as := [aR 188, aI 0, aI x1]) (rest := []) (show decode (mC 248) 176 = .ok (.invokevirtual 199, 3) by decide +kernel) (by decide +kernel) (show (decide ((3 : Nat) = mA 181) && decide (181 < q_law)) = true by decide +kernel) rfl (show (0 : Nat) ≤ 8 by decide) (show (3 : Nat) ≤ mL 181 by decide +kernel) rfl (sh_ok hG (by decide +kernel)) m1
/-- SoulOfficeModel.bookLine()Z, from 179 -/
theorem b248_179 (hG : Shp G) {v1 u0 x1 : Int} (hQ : ∀ o o' h', q_eqo o o' → Q o h' → Q o' h')
    (s0 : -2147483648 ≤ u0 ∧ u0 < 2147483648)
    (ex1 : c 188 18 = x1)
    (s2 : (¬ u0 = 0) → 0 ≤ (v1 + 2))
    (s3 : (¬ u0 = 0) → (v1 + 2) < 135)
    (m4 : (¬ u0 = 0) → TM d 172 [aR 188] (G, (q_up c 192 (v1 + 2) x1)) (fun r h' => T (d + 1) 248 200 [none, none] (r.toList ++ []) h' Q))
    (z5 : (u0 = 0) → Q (.inl (some (aI 0))) (G, c)) :
    T (d + 1) 248 179 [some (aR 188), some (aI v1)] [aI u0] (G, c) Q := by
  refine e_ne1 (t := 184) (show decode (mC 248) 179 = .ok (.ifCond .ne 5, 3) by decide +kernel) (by decide) s0 (fun p1 => ?_) (fun p1 => ?_)
  · refine e_L (L' := [some (aR 188), some (aI v1)]) (st' := [aR 188]) (show decode (mC 248) 184 = .ok (.aload_n 0, 1) by decide +kernel) rfl (by show (if 188 = 0 then none else some (_, _)) = _; rw [if_neg (by decide)]) ?_
    refine e_getR (w := 192) (show decode (mC 248) 185 = .ok (.getfield 40, 3) by decide +kernel) (show pl 12 40 = some (0, 12, 8, 0) by decide +kernel) (by decide) (sh_ok hG (by decide +kernel)) (sh_rf hG (by decide +kernel)) ?_
    refine e_L (L' := [some (aR 188), some (aI v1)]) (st' := [aI v1, aR 192]) (show decode (mC 248) 188 = .ok (.iload_n 1, 1) by decide +kernel) rfl rfl ?_
    refine e_P (st' := [aI 2, aI v1, aR 192]) (show decode (mC 248) 189 = .ok (.iconst 2, 1) by decide +kernel) rfl rfl rfl ?_
    refine e_P (st' := [aI (v1 + 2), aR 192]) (show decode (mC 248) 190 = .ok (.iadd, 1) by decide +kernel) rfl rfl rfl ?_
    refine e_L (L' := [some (aR 188), some (aI v1)]) (st' := [aR 188, aI (v1 + 2), aR 192]) (show decode (mC 248) 191 = .ok (.aload_n 0, 1) by decide +kernel) rfl (by show (if 188 = 0 then none else some (_, _)) = _; rw [if_neg (by decide)]) ?_
    refine e_getIx (show decode (mC 248) 192 = .ok (.getfield 188, 3) by decide +kernel) (show pl 12 188 = some (0, 12, 18, 0) by decide +kernel) (by decide) (sh_ok hG (by decide +kernel)) ex1 ?_
    refine e_iast (n := 135) (show decode (mC 248) 195 = .ok (.iastore, 1) by decide +kernel) (sh_ok hG (by decide +kernel)) (sh_ln hG (by decide +kernel)) (by decide) (s2 p1) (s3 p1) ?_
    refine e_L (L' := [some (aR 188), some (aI v1)]) (st' := [aR 188]) (show decode (mC 248) 196 = .ok (.aload_n 0, 1) by decide +kernel) rfl (by show (if 188 = 0 then none else some (_, _)) = _; rw [if_neg (by decide)]) ?_
    exact e_V (as := [aR 188]) (rest := []) (show decode (mC 248) 197 = .ok (.invokevirtual 181, 3) by decide +kernel) (by decide +kernel) (show (decide ((1 : Nat) = mA 172) && decide (172 < q_law)) = true by decide +kernel) rfl (show (0 : Nat) ≤ 8 by decide) (show (1 : Nat) ≤ mL 172 by decide +kernel) rfl (sh_ok hG (by decide +kernel)) (tm_le hQ (leN (leN leE)) (m4 p1))
  · refine e_P (st' := [aI 0]) (show decode (mC 248) 182 = .ok (.iconst 0, 1) by decide +kernel) rfl rfl rfl ?_
    exact e_zret (show decode (mC 248) 183 = .ok (.ireturn, 1) by decide +kernel) rfl (by decide) (z5 p1)
/-- SoulOfficeModel.bookLine()Z, from 200 -/
theorem b248_200 (hG : Shp G)
    (z0 : Q (.inl (some (aI 1))) (G, c)) :
    T (d + 1) 248 200 [none, none] [] (G, c) Q := by
  refine e_P (st' := [aI 1]) (show decode (mC 248) 200 = .ok (.iconst 1, 1) by decide +kernel) rfl rfl rfl ?_
  exact e_zret (show decode (mC 248) 201 = .ok (.ireturn, 1) by decide +kernel) rfl (by decide) z0
/-- SoulOfficeModel.does(I)I, from 0 -/
theorem b249_0 (hG : Shp G) {v1 x1 x2 x3 x4 : Int}
    (s0 : 0 ≤ (v1 + 1))
    (s1 : (v1 + 1) < 135)
    (ex1 : c 192 (v1 + 1) = x1)
    (s3 : 0 ≤ v1)
    (s4 : v1 < 135)
    (ex2 : c 192 v1 = x2)
    (s6 : -2147483648 ≤ x2 ∧ x2 < 2147483648)
    (ex3 : c 190 168 = x3)
    (s8 : (¬ x2 = 0) → -2147483648 ≤ (x3 + x1) ∧ (x3 + x1) < 2147483648)
    (k9 : (¬ x2 = 0) → ((x3 + x1) ≤ 9999) → T (d + 1) 249 71 [some (aR 188), some (aI v1), some (aI x1), some (aI 0)] [] (G, c) Q)
    (z10 : (¬ x2 = 0) → (9999 < (x3 + x1)) → Q (.inl (some (aI 4))) (G, c))
    (s11 : (x2 = 0) → 0 ≤ (v1 + 2))
    (s12 : (x2 = 0) → (v1 + 2) < 135)
    (ex4 : c 192 (v1 + 2) = x4)
    (m14 : (x2 = 0) → TM d 198 [aR 188, aI x1, aI x4] (G, c) (fun r h' => T (d + 1) 249 31 [some (aR 188), some (aI v1), some (aI x1), none] (r.toList ++ []) h' Q)) :
    T (d + 1) 249 0 [some (aR 188), some (aI v1), none, none] [] (G, c) Q := by
  refine e_L (L' := [some (aR 188), some (aI v1), none, none]) (st' := [aR 188]) (show decode (mC 249) 0 = .ok (.aload_n 0, 1) by decide +kernel) rfl (by show (if 188 = 0 then none else some (_, _)) = _; rw [if_neg (by decide)]) ?_
  refine e_getR (w := 192) (show decode (mC 249) 1 = .ok (.getfield 40, 3) by decide +kernel) (show pl 12 40 = some (0, 12, 8, 0) by decide +kernel) (by decide) (sh_ok hG (by decide +kernel)) (sh_rf hG (by decide +kernel)) ?_
  refine e_L (L' := [some (aR 188), some (aI v1), none, none]) (st' := [aI v1, aR 192]) (show decode (mC 249) 4 = .ok (.iload_n 1, 1) by decide +kernel) rfl rfl ?_
  refine e_P (st' := [aI 1, aI v1, aR 192]) (show decode (mC 249) 5 = .ok (.iconst 1, 1) by decide +kernel) rfl rfl rfl ?_
  refine e_P (st' := [aI (v1 + 1), aR 192]) (show decode (mC 249) 6 = .ok (.iadd, 1) by decide +kernel) rfl rfl rfl ?_
  refine e_ialdx (n := 135) (show decode (mC 249) 7 = .ok (.iaload, 1) by decide +kernel) (sh_ok hG (by decide +kernel)) (sh_ln hG (by decide +kernel)) (by decide) s0 s1 ex1 ?_
  refine e_L (L' := [some (aR 188), some (aI v1), some (aI x1), none]) (st' := []) (show decode (mC 249) 8 = .ok (.istore_n 2, 1) by decide +kernel) rfl rfl ?_
  refine e_L (L' := [some (aR 188), some (aI v1), some (aI x1), none]) (st' := [aR 188]) (show decode (mC 249) 9 = .ok (.aload_n 0, 1) by decide +kernel) rfl (by show (if 188 = 0 then none else some (_, _)) = _; rw [if_neg (by decide)]) ?_
  refine e_getR (w := 192) (show decode (mC 249) 10 = .ok (.getfield 40, 3) by decide +kernel) (show pl 12 40 = some (0, 12, 8, 0) by decide +kernel) (by decide) (sh_ok hG (by decide +kernel)) (sh_rf hG (by decide +kernel)) ?_
  refine e_L (L' := [some (aR 188), some (aI v1), some (aI x1), none]) (st' := [aI v1, aR 192]) (show decode (mC 249) 13 = .ok (.iload_n 1, 1) by decide +kernel) rfl rfl ?_
  refine e_ialdx (n := 135) (show decode (mC 249) 14 = .ok (.iaload, 1) by decide +kernel) (sh_ok hG (by decide +kernel)) (sh_ln hG (by decide +kernel)) (by decide) s3 s4 ex2 ?_
  refine e_ne1 (t := 51) (show decode (mC 249) 15 = .ok (.ifCond .ne 36, 3) by decide +kernel) (by decide) s6 (fun p1 => ?_) (fun p1 => ?_)
  · refine e_L (L' := [some (aR 188), some (aI v1), some (aI x1), none]) (st' := [aR 188]) (show decode (mC 249) 51 = .ok (.aload_n 0, 1) by decide +kernel) rfl (by show (if 188 = 0 then none else some (_, _)) = _; rw [if_neg (by decide)]) ?_
    refine e_getR (w := 190) (show decode (mC 249) 52 = .ok (.getfield 33, 3) by decide +kernel) (show pl 12 33 = some (0, 12, 6, 0) by decide +kernel) (by decide) (sh_ok hG (by decide +kernel)) (sh_rf hG (by decide +kernel)) ?_
    refine e_P (st' := [aI 168, aR 190]) (show decode (mC 249) 55 = .ok (.sipush 168, 3) by decide +kernel) rfl rfl rfl ?_
    refine e_ialdx (n := 514) (show decode (mC 249) 58 = .ok (.iaload, 1) by decide +kernel) (sh_ok hG (by decide +kernel)) (sh_ln hG (by decide +kernel)) (by decide) (by decide) (by decide) ex3 ?_
    refine e_L (L' := [some (aR 188), some (aI v1), some (aI x1), none]) (st' := [aI x1, aI x3]) (show decode (mC 249) 59 = .ok (.iload_n 2, 1) by decide +kernel) rfl rfl ?_
    refine e_P (st' := [aI (x3 + x1)]) (show decode (mC 249) 60 = .ok (.iadd, 1) by decide +kernel) rfl rfl rfl ?_
    refine e_P (st' := [aI 9999, aI (x3 + x1)]) (show decode (mC 249) 61 = .ok (.sipush 9999, 3) by decide +kernel) rfl rfl rfl ?_
    refine e_le2 (t := 69) (show decode (mC 249) 64 = .ok (.if_icmp .le 5, 3) by decide +kernel) (by decide) (s8 p1) (by decide) (fun p2 => ?_) (fun p2 => ?_)
    · refine e_P (st' := [aI 0]) (show decode (mC 249) 69 = .ok (.iconst 0, 1) by decide +kernel) rfl rfl rfl ?_
      refine e_L (L' := [some (aR 188), some (aI v1), some (aI x1), some (aI 0)]) (st' := []) (show decode (mC 249) 70 = .ok (.istore_n 3, 1) by decide +kernel) rfl rfl ?_
      exact (k9 p1 p2)
    · refine e_P (st' := [aI 4]) (show decode (mC 249) 67 = .ok (.iconst 4, 1) by decide +kernel) rfl rfl rfl ?_
      exact e_iret (show decode (mC 249) 68 = .ok (.ireturn, 1) by decide +kernel) rfl (z10 p1 p2)
  · refine e_L (L' := [some (aR 188), some (aI v1), some (aI x1), none]) (st' := [aR 188]) (show decode (mC 249) 18 = .ok (.aload_n 0, 1) by decide +kernel) rfl (by show (if 188 = 0 then none else some (_, _)) = _; rw [if_neg (by decide)]) ?_
    refine e_L (L' := [some (aR 188), some (aI v1), some (aI x1), none]) (st' := [aI x1, aR 188]) (show decode (mC 249) 19 = .ok (.iload_n 2, 1) by decide +kernel) rfl rfl ?_
    refine e_L (L' := [some (aR 188), some (aI v1), some (aI x1), none]) (st' := [aR 188, aI x1, aR 188]) (show decode (mC 249) 20 = .ok (.aload_n 0, 1) by decide +kernel) rfl (by show (if 188 = 0 then none else some (_, _)) = _; rw [if_neg (by decide)]) ?_
    refine e_getR (w := 192) (show decode (mC 249) 21 = .ok (.getfield 40, 3) by decide +kernel) (show pl 12 40 = some (0, 12, 8, 0) by decide +kernel) (by decide) (sh_ok hG (by decide +kernel)) (sh_rf hG (by decide +kernel)) ?_
    refine e_L (L' := [some (aR 188), some (aI v1), some (aI x1), none]) (st' := [aI v1, aR 192, aI x1, aR 188]) (show decode (mC 249) 24 = .ok (.iload_n 1, 1) by decide +kernel) rfl rfl ?_
    refine e_P (st' := [aI 2, aI v1, aR 192, aI x1, aR 188]) (show decode (mC 249) 25 = .ok (.iconst 2, 1) by decide +kernel) rfl rfl rfl ?_
    refine e_P (st' := [aI (v1 + 2), aR 192, aI x1, aR 188]) (show decode (mC 249) 26 = .ok (.iadd, 1) by decide +kernel) rfl rfl rfl ?_
    refine e_ialdx (n := 135) (show decode (mC 249) 27 = .ok (.iaload, 1) by decide +kernel) (sh_ok hG (by decide +kernel)) (sh_ln hG (by decide +kernel)) (by decide) (s11 p1) (s12 p1) ex4 ?_
    exact e_V (as := [aR 188, aI x1, aI x4]) (rest := []) (show decode (mC 249) 28 = .ok (.invokevirtual 275, 3) by decide +kernel) (by decide +kernel) (show (decide ((3 : Nat) = mA 198) && decide (198 < q_law)) = true by decide +kernel) rfl (show (0 : Nat) ≤ 8 by decide) (show (3 : Nat) ≤ mL 198 by decide +kernel) rfl (sh_ok hG (by decide +kernel)) (m14 p1)
/-- SoulOfficeModel.does(I)I, from 31 -/
theorem b249_31 (hG : Shp G) {v1 v2 u0 x1 : Int} (hQ : ∀ o o' h', q_eqo o o' → Q o h' → Q o' h')
    (s0 : -2147483648 ≤ u0 ∧ u0 < 2147483648)
    (k1 : (¬ u0 = 0) → T (d + 1) 249 49 [none, none, none, some (aI u0)] [] (G, c) Q)
    (s2 : (u0 = 0) → 0 ≤ (v1 + 2))
    (s3 : (u0 = 0) → (v1 + 2) < 135)
    (ex1 : c 192 (v1 + 2) = x1)
    (m5 : (u0 = 0) → TM d 200 [aR 188, aI v2, aI x1] (G, c) (fun r h' => T (d + 1) 249 49 [none, none, none, some (aI u0)] (r.toList ++ []) h' Q)) :
    T (d + 1) 249 31 [some (aR 188), some (aI v1), some (aI v2), none] [aI u0] (G, c) Q := by
  refine e_L (L' := [some (aR 188), some (aI v1), some (aI v2), some (aI u0)]) (st' := []) (show decode (mC 249) 31 = .ok (.istore_n 3, 1) by decide +kernel) rfl rfl ?_
  refine e_L (L' := [some (aR 188), some (aI v1), some (aI v2), some (aI u0)]) (st' := [aI u0]) (show decode (mC 249) 32 = .ok (.iload_n 3, 1) by decide +kernel) rfl rfl ?_
  refine e_ne1 (t := 49) (show decode (mC 249) 33 = .ok (.ifCond .ne 16, 3) by decide +kernel) (by decide) s0 (fun p1 => ?_) (fun p1 => ?_)
  · exact T_le hQ (leN (leN (leN (leS leE)))) (k1 p1)
  · refine e_L (L' := [some (aR 188), some (aI v1), some (aI v2), some (aI u0)]) (st' := [aR 188]) (show decode (mC 249) 36 = .ok (.aload_n 0, 1) by decide +kernel) rfl (by show (if 188 = 0 then none else some (_, _)) = _; rw [if_neg (by decide)]) ?_
    refine e_L (L' := [some (aR 188), some (aI v1), some (aI v2), some (aI u0)]) (st' := [aI v2, aR 188]) (show decode (mC 249) 37 = .ok (.iload_n 2, 1) by decide +kernel) rfl rfl ?_
    refine e_L (L' := [some (aR 188), some (aI v1), some (aI v2), some (aI u0)]) (st' := [aR 188, aI v2, aR 188]) (show decode (mC 249) 38 = .ok (.aload_n 0, 1) by decide +kernel) rfl (by show (if 188 = 0 then none else some (_, _)) = _; rw [if_neg (by decide)]) ?_
    refine e_getR (w := 192) (show decode (mC 249) 39 = .ok (.getfield 40, 3) by decide +kernel) (show pl 12 40 = some (0, 12, 8, 0) by decide +kernel) (by decide) (sh_ok hG (by decide +kernel)) (sh_rf hG (by decide +kernel)) ?_
    refine e_L (L' := [some (aR 188), some (aI v1), some (aI v2), some (aI u0)]) (st' := [aI v1, aR 192, aI v2, aR 188]) (show decode (mC 249) 42 = .ok (.iload_n 1, 1) by decide +kernel) rfl rfl ?_
    refine e_P (st' := [aI 2, aI v1, aR 192, aI v2, aR 188]) (show decode (mC 249) 43 = .ok (.iconst 2, 1) by decide +kernel) rfl rfl rfl ?_
    refine e_P (st' := [aI (v1 + 2), aR 192, aI v2, aR 188]) (show decode (mC 249) 44 = .ok (.iadd, 1) by decide +kernel) rfl rfl rfl ?_
    refine e_ialdx (n := 135) (show decode (mC 249) 45 = .ok (.iaload, 1) by decide +kernel) (sh_ok hG (by decide +kernel)) (sh_ln hG (by decide +kernel)) (by decide) (s2 p1) (s3 p1) ex1 ?_
    exact e_V (as := [aR 188, aI v2, aI x1]) (rest := []) (show decode (mC 249) 46 = .ok (.invokevirtual 281, 3) by decide +kernel) (by decide +kernel) (show (decide ((3 : Nat) = mA 200) && decide (200 < q_law)) = true by decide +kernel) rfl (show (0 : Nat) ≤ 8 by decide) (show (3 : Nat) ≤ mL 200 by decide +kernel) rfl (sh_ok hG (by decide +kernel)) (tm_le hQ (leN (leN (leN (leS leE)))) (m5 p1))
/-- SoulOfficeModel.does(I)I, from 49 -/
theorem b249_49 (hG : Shp G) {v3 : Int}
    (z0 : Q (.inl (some (aI v3))) (G, c)) :
    T (d + 1) 249 49 [none, none, none, some (aI v3)] [] (G, c) Q := by
  refine e_L (L' := [none, none, none, some (aI v3)]) (st' := [aI v3]) (show decode (mC 249) 49 = .ok (.iload_n 3, 1) by decide +kernel) rfl rfl ?_
  exact e_iret (show decode (mC 249) 50 = .ok (.ireturn, 1) by decide +kernel) rfl z0
/-- SoulOfficeModel.does(I)I, from 71 -/
theorem b249_71 (hG : Shp G) {v1 v2 v3 x1 : Int}
    (s0 : -2147483648 ≤ v3 ∧ v3 < 2147483648)
    (s1 : -2147483648 ≤ v2 ∧ v2 < 2147483648)
    (z2 : (v2 ≤ v3) → Q (.inl (some (aI 0))) (G, c))
    (s3 : (v3 < v2) → 0 ≤ v1)
    (s4 : (v3 < v2) → v1 < 135)
    (ex1 : c 192 v1 = x1)
    (s6 : (v3 < v2) → -2147483648 ≤ x1 ∧ x1 < 2147483648)
    (k7 : (v3 < v2) → (¬ x1 = 2) → T (d + 1) 249 90 [some (aR 188), some (aI v1), some (aI v2), some (aI v3)] [] (G, c) Q)
    (m8 : (v3 < v2) → (x1 = 2) → TM d 204 [aR 188] (G, c) (fun r h' => T (d + 1) 249 90 [some (aR 188), some (aI v1), some (aI v2), some (aI v3)] (r.toList ++ []) h' Q)) :
    T (d + 1) 249 71 [some (aR 188), some (aI v1), some (aI v2), some (aI v3)] [] (G, c) Q := by
  refine e_L (L' := [some (aR 188), some (aI v1), some (aI v2), some (aI v3)]) (st' := [aI v3]) (show decode (mC 249) 71 = .ok (.iload_n 3, 1) by decide +kernel) rfl rfl ?_
  refine e_L (L' := [some (aR 188), some (aI v1), some (aI v2), some (aI v3)]) (st' := [aI v2, aI v3]) (show decode (mC 249) 72 = .ok (.iload_n 2, 1) by decide +kernel) rfl rfl ?_
  refine e_ge2 (t := 100) (show decode (mC 249) 73 = .ok (.if_icmp .ge 27, 3) by decide +kernel) (by decide) s0 s1 (fun p1 => ?_) (fun p1 => ?_)
  · refine e_P (st' := [aI 0]) (show decode (mC 249) 100 = .ok (.iconst 0, 1) by decide +kernel) rfl rfl rfl ?_
    exact e_iret (show decode (mC 249) 101 = .ok (.ireturn, 1) by decide +kernel) rfl (z2 p1)
  · refine e_L (L' := [some (aR 188), some (aI v1), some (aI v2), some (aI v3)]) (st' := [aR 188]) (show decode (mC 249) 76 = .ok (.aload_n 0, 1) by decide +kernel) rfl (by show (if 188 = 0 then none else some (_, _)) = _; rw [if_neg (by decide)]) ?_
    refine e_getR (w := 192) (show decode (mC 249) 77 = .ok (.getfield 40, 3) by decide +kernel) (show pl 12 40 = some (0, 12, 8, 0) by decide +kernel) (by decide) (sh_ok hG (by decide +kernel)) (sh_rf hG (by decide +kernel)) ?_
    refine e_L (L' := [some (aR 188), some (aI v1), some (aI v2), some (aI v3)]) (st' := [aI v1, aR 192]) (show decode (mC 249) 80 = .ok (.iload_n 1, 1) by decide +kernel) rfl rfl ?_
    refine e_ialdx (n := 135) (show decode (mC 249) 81 = .ok (.iaload, 1) by decide +kernel) (sh_ok hG (by decide +kernel)) (sh_ln hG (by decide +kernel)) (by decide) (s3 p1) (s4 p1) ex1 ?_
    refine e_P (st' := [aI 2, aI x1]) (show decode (mC 249) 82 = .ok (.iconst 2, 1) by decide +kernel) rfl rfl rfl ?_
    refine e_ne2 (t := 90) (show decode (mC 249) 83 = .ok (.if_icmp .ne 7, 3) by decide +kernel) (by decide) (s6 p1) (by decide) (fun p2 => ?_) (fun p2 => ?_)
    · exact (k7 p1 p2)
    · refine e_L (L' := [some (aR 188), some (aI v1), some (aI v2), some (aI v3)]) (st' := [aR 188]) (show decode (mC 249) 86 = .ok (.aload_n 0, 1) by decide +kernel) rfl (by show (if 188 = 0 then none else some (_, _)) = _; rw [if_neg (by decide)]) ?_
      exact e_V (as := [aR 188]) (rest := []) (show decode (mC 249) 87 = .ok (.invokevirtual 284, 3) by decide +kernel) (by decide +kernel) (show (decide ((1 : Nat) = mA 204) && decide (204 < q_law)) = true by decide +kernel) rfl (show (0 : Nat) ≤ 8 by decide) (show (1 : Nat) ≤ mL 204 by decide +kernel) rfl (sh_ok hG (by decide +kernel)) (m8 p1 p2)
/-- SoulOfficeModel.does(I)I, from 90 -/
theorem b249_90 (hG : Shp G) {v1 v2 v3 : Int}
    (m0 : TM d 202 [aR 188] (G, c) (fun r h' => T (d + 1) 249 94 [some (aR 188), some (aI v1), some (aI v2), some (aI v3)] (r.toList ++ []) h' Q)) :
    T (d + 1) 249 90 [some (aR 188), some (aI v1), some (aI v2), some (aI v3)] [] (G, c) Q := by
  refine e_L (L' := [some (aR 188), some (aI v1), some (aI v2), some (aI v3)]) (st' := [aR 188]) (show decode (mC 249) 90 = .ok (.aload_n 0, 1) by decide +kernel) rfl (by show (if 188 = 0 then none else some (_, _)) = _; rw [if_neg (by decide)]) ?_
  exact e_V (as := [aR 188]) (rest := []) (show decode (mC 249) 91 = .ok (.invokevirtual 287, 3) by decide +kernel) (by decide +kernel) (show (decide ((1 : Nat) = mA 202) && decide (202 < q_law)) = true by decide +kernel) rfl (show (0 : Nat) ≤ 8 by decide) (show (1 : Nat) ≤ mL 202 by decide +kernel) rfl (sh_ok hG (by decide +kernel)) m0
/-- SoulOfficeModel.does(I)I, from 94 -/
theorem b249_94 (hG : Shp G) {v1 v2 v3 : Int}
    (k0 : T (d + 1) 249 71 [some (aR 188), some (aI v1), some (aI v2), some (aI (v3 + 1))] [] (G, c) Q) :
    T (d + 1) 249 94 [some (aR 188), some (aI v1), some (aI v2), some (aI v3)] [] (G, c) Q := by
  refine e_L (L' := [some (aR 188), some (aI v1), some (aI v2), some (aI (v3 + 1))]) (st' := []) (show decode (mC 249) 94 = .ok (.iinc 3 1, 3) by decide +kernel) rfl rfl ?_
  refine e_go (t := 71) (show decode (mC 249) 97 = .ok (.goto (-26), 3) by decide +kernel) (by decide) ?_
  exact k0
/-- SoulOfficeModel.daybook(I)I, from 0 -/
theorem b250_0 (hG : Shp G) {v1 : Int}
    (m0 : TM d 164 [aI v1, aI 0, aI 1] (G, (q_up c 188 0 0)) (fun r h' => T (d + 1) 250 11 [some (aR 188), some (aI v1), none, none, none] (r.toList ++ []) h' Q)) :
    T (d + 1) 250 0 [some (aR 188), some (aI v1), none, none, none] [] (G, c) Q := by
  refine e_L (L' := [some (aR 188), some (aI v1), none, none, none]) (st' := [aR 188]) (show decode (mC 250) 0 = .ok (.aload_n 0, 1) by decide +kernel) rfl (by show (if 188 = 0 then none else some (_, _)) = _; rw [if_neg (by decide)]) ?_
  refine e_P (st' := [aI 0, aR 188]) (show decode (mC 250) 1 = .ok (.iconst 0, 1) by decide +kernel) rfl rfl rfl ?_
  refine e_putI (show decode (mC 250) 2 = .ok (.putfield 1, 3) by decide +kernel) (show pl 12 1 = some (0, 12, 0, 0) by decide +kernel) (by decide) (sh_ok hG (by decide +kernel)) ?_
  refine e_L (L' := [some (aR 188), some (aI v1), none, none, none]) (st' := [aI v1]) (show decode (mC 250) 5 = .ok (.iload_n 1, 1) by decide +kernel) rfl rfl ?_
  refine e_P (st' := [aI 0, aI v1]) (show decode (mC 250) 6 = .ok (.iconst 0, 1) by decide +kernel) rfl rfl rfl ?_
  refine e_P (st' := [aI 1, aI 0, aI v1]) (show decode (mC 250) 7 = .ok (.iconst 1, 1) by decide +kernel) rfl rfl rfl ?_
  exact e_S (as := [aI v1, aI 0, aI 1]) (rest := []) (show decode (mC 250) 8 = .ok (.invokestatic 184, 3) by decide +kernel) (by decide +kernel) (show (decide ((3 : Nat) = mA 164) && decide (164 < q_law)) = true by decide +kernel) rfl (show (0 : Nat) ≤ 8 by decide) (show (3 : Nat) ≤ mL 164 by decide +kernel) m0
/-- SoulOfficeModel.daybook(I)I, from 11 -/
theorem b250_11 (hG : Shp G) {v1 u0 : Int}
    (s0 : -2147483648 ≤ u0 ∧ u0 < 2147483648)
    (m1 : (¬ u0 = 0) → TM d 163 [aR 188, aI 400] (G, c) (fun r h' => T (d + 1) 250 25 [some (aR 188), some (aI v1), none, none, none] (r.toList ++ []) h' Q))
    (z2 : (u0 = 0) → Q (.inl (some (aI (-1000)))) (G, c)) :
    T (d + 1) 250 11 [some (aR 188), some (aI v1), none, none, none] [aI u0] (G, c) Q := by
  refine e_ne1 (t := 18) (show decode (mC 250) 11 = .ok (.ifCond .ne 7, 3) by decide +kernel) (by decide) s0 (fun p1 => ?_) (fun p1 => ?_)
  · refine e_L (L' := [some (aR 188), some (aI v1), none, none, none]) (st' := [aR 188]) (show decode (mC 250) 18 = .ok (.aload_n 0, 1) by decide +kernel) rfl (by show (if 188 = 0 then none else some (_, _)) = _; rw [if_neg (by decide)]) ?_
    refine e_P (st' := [aI 400, aR 188]) (show decode (mC 250) 19 = .ok (.sipush 400, 3) by decide +kernel) rfl rfl rfl ?_
    exact e_V (as := [aR 188, aI 400]) (rest := []) (show decode (mC 250) 22 = .ok (.invokevirtual 226, 3) by decide +kernel) (by decide +kernel) (show (decide ((2 : Nat) = mA 163) && decide (163 < q_law)) = true by decide +kernel) rfl (show (0 : Nat) ≤ 8 by decide) (show (2 : Nat) ≤ mL 163 by decide +kernel) rfl (sh_ok hG (by decide +kernel)) (m1 p1)
  · refine e_P (st' := [aI (-1000)]) (show decode (mC 250) 14 = .ok (.sipush (-1000), 3) by decide +kernel) rfl rfl rfl ?_
    exact e_iret (show decode (mC 250) 17 = .ok (.ireturn, 1) by decide +kernel) rfl (z2 p1)
/-- SoulOfficeModel.daybook(I)I, from 25 -/
theorem b250_25 (hG : Shp G) {v1 : Int}
    (m0 : TM d 172 [aR 188] (G, (q_up (q_up c 188 15 0) 188 36 0)) (fun r h' => T (d + 1) 250 39 [some (aR 188), some (aI v1), none, none, none] (r.toList ++ []) h' Q)) :
    T (d + 1) 250 25 [some (aR 188), some (aI v1), none, none, none] [] (G, c) Q := by
  refine e_L (L' := [some (aR 188), some (aI v1), none, none, none]) (st' := [aR 188]) (show decode (mC 250) 25 = .ok (.aload_n 0, 1) by decide +kernel) rfl (by show (if 188 = 0 then none else some (_, _)) = _; rw [if_neg (by decide)]) ?_
  refine e_P (st' := [aI 0, aR 188]) (show decode (mC 250) 26 = .ok (.iconst 0, 1) by decide +kernel) rfl rfl rfl ?_
  refine e_putI (show decode (mC 250) 27 = .ok (.putfield 169, 3) by decide +kernel) (show pl 12 169 = some (0, 12, 15, 0) by decide +kernel) (by decide) (sh_ok hG (by decide +kernel)) ?_
  refine e_L (L' := [some (aR 188), some (aI v1), none, none, none]) (st' := [aR 188]) (show decode (mC 250) 30 = .ok (.aload_n 0, 1) by decide +kernel) rfl (by show (if 188 = 0 then none else some (_, _)) = _; rw [if_neg (by decide)]) ?_
  refine e_P (st' := [aI 0, aR 188]) (show decode (mC 250) 31 = .ok (.iconst 0, 1) by decide +kernel) rfl rfl rfl ?_
  refine e_putI (show decode (mC 250) 32 = .ok (.putfield 366, 3) by decide +kernel) (show pl 12 366 = some (0, 12, 36, 0) by decide +kernel) (by decide) (sh_ok hG (by decide +kernel)) ?_
  refine e_L (L' := [some (aR 188), some (aI v1), none, none, none]) (st' := [aR 188]) (show decode (mC 250) 35 = .ok (.aload_n 0, 1) by decide +kernel) rfl (by show (if 188 = 0 then none else some (_, _)) = _; rw [if_neg (by decide)]) ?_
  exact e_V (as := [aR 188]) (rest := []) (show decode (mC 250) 36 = .ok (.invokevirtual 181, 3) by decide +kernel) (by decide +kernel) (show (decide ((1 : Nat) = mA 172) && decide (172 < q_law)) = true by decide +kernel) rfl (show (0 : Nat) ≤ 8 by decide) (show (1 : Nat) ≤ mL 172 by decide +kernel) rfl (sh_ok hG (by decide +kernel)) m0
/-- SoulOfficeModel.daybook(I)I, from 39 -/
theorem b250_39 (hG : Shp G) {v1 x1 : Int}
    (ex1 : c 188 11 = x1)
    (s1 : -2147483648 ≤ x1 ∧ x1 < 2147483648)
    (m2 : (x1 = 0) → TM d 214 [aR 188] (G, c) (fun r h' => T (d + 1) 250 87 [some (aR 188), some (aI v1), none, none, none] (r.toList ++ []) h' Q))
    (m3 : (¬ x1 = 0) → TM d 248 [aR 188] (G, c) (fun r h' => T (d + 1) 250 50 [some (aR 188), some (aI v1), none, none, none] (r.toList ++ []) h' Q)) :
    T (d + 1) 250 39 [some (aR 188), some (aI v1), none, none, none] [] (G, c) Q := by
  refine e_L (L' := [some (aR 188), some (aI v1), none, none, none]) (st' := [aR 188]) (show decode (mC 250) 39 = .ok (.aload_n 0, 1) by decide +kernel) rfl (by show (if 188 = 0 then none else some (_, _)) = _; rw [if_neg (by decide)]) ?_
  refine e_getIx (show decode (mC 250) 40 = .ok (.getfield 152, 3) by decide +kernel) (show pl 12 152 = some (0, 12, 11, 0) by decide +kernel) (by decide) (sh_ok hG (by decide +kernel)) ex1 ?_
  refine e_eq1 (t := 83) (show decode (mC 250) 43 = .ok (.ifCond .eq 40, 3) by decide +kernel) (by decide) s1 (fun p1 => ?_) (fun p1 => ?_)
  · refine e_L (L' := [some (aR 188), some (aI v1), none, none, none]) (st' := [aR 188]) (show decode (mC 250) 83 = .ok (.aload_n 0, 1) by decide +kernel) rfl (by show (if 188 = 0 then none else some (_, _)) = _; rw [if_neg (by decide)]) ?_
    exact e_V (as := [aR 188]) (rest := []) (show decode (mC 250) 84 = .ok (.invokevirtual 299, 3) by decide +kernel) (by decide +kernel) (show (decide ((1 : Nat) = mA 214) && decide (214 < q_law)) = true by decide +kernel) rfl (show (0 : Nat) ≤ 8 by decide) (show (1 : Nat) ≤ mL 214 by decide +kernel) rfl (sh_ok hG (by decide +kernel)) (m2 p1)
  · refine e_L (L' := [some (aR 188), some (aI v1), none, none, none]) (st' := [aR 188]) (show decode (mC 250) 46 = .ok (.aload_n 0, 1) by decide +kernel) rfl (by show (if 188 = 0 then none else some (_, _)) = _; rw [if_neg (by decide)]) ?_
    exact e_V (as := [aR 188]) (rest := []) (show decode (mC 250) 47 = .ok (.invokevirtual 369, 3) by decide +kernel) (by decide +kernel) (show (decide ((1 : Nat) = mA 248) && decide (248 < q_law)) = true by decide +kernel) rfl (show (0 : Nat) ≤ 8 by decide) (show (1 : Nat) ≤ mL 248 by decide +kernel) rfl (sh_ok hG (by decide +kernel)) (m3 p1)
/-- SoulOfficeModel.daybook(I)I, from 50 -/
theorem b250_50 (hG : Shp G) {v1 u0 x1 : Int}
    (s0 : -2147483648 ≤ u0 ∧ u0 < 2147483648)
    (ex1 : c 188 16 = x1)
    (z2 : (u0 = 0) → Q (.inl (some (aI ((-2) - x1)))) (G, c))
    (m3 : (¬ u0 = 0) → TM d 176 [aR 188, aI 59] (G, c) (fun r h' => T (d + 1) 250 59 [some (aR 188), some (aI v1), none, none, none] (r.toList ++ []) h' Q)) :
    T (d + 1) 250 50 [some (aR 188), some (aI v1), none, none, none] [aI u0] (G, c) Q := by
  refine e_eq1 (t := 62) (show decode (mC 250) 50 = .ok (.ifCond .eq 12, 3) by decide +kernel) (by decide) s0 (fun p1 => ?_) (fun p1 => ?_)
  · refine e_P (st' := [aI (-2)]) (show decode (mC 250) 62 = .ok (.bipush (-2), 2) by decide +kernel) rfl rfl rfl ?_
    refine e_L (L' := [some (aR 188), some (aI v1), none, none, none]) (st' := [aR 188, aI (-2)]) (show decode (mC 250) 64 = .ok (.aload_n 0, 1) by decide +kernel) rfl (by show (if 188 = 0 then none else some (_, _)) = _; rw [if_neg (by decide)]) ?_
    refine e_getIx (show decode (mC 250) 65 = .ok (.getfield 172, 3) by decide +kernel) (show pl 12 172 = some (0, 12, 16, 0) by decide +kernel) (by decide) (sh_ok hG (by decide +kernel)) ex1 ?_
    refine e_P (st' := [aI ((-2) - x1)]) (show decode (mC 250) 68 = .ok (.isub, 1) by decide +kernel) rfl rfl rfl ?_
    exact e_iret (show decode (mC 250) 69 = .ok (.ireturn, 1) by decide +kernel) rfl (z2 p1)
  · refine e_L (L' := [some (aR 188), some (aI v1), none, none, none]) (st' := [aR 188]) (show decode (mC 250) 53 = .ok (.aload_n 0, 1) by decide +kernel) rfl (by show (if 188 = 0 then none else some (_, _)) = _; rw [if_neg (by decide)]) ?_
    refine e_P (st' := [aI 59, aR 188]) (show decode (mC 250) 54 = .ok (.bipush 59, 2) by decide +kernel) rfl rfl rfl ?_
    exact e_V (as := [aR 188, aI 59]) (rest := []) (show decode (mC 250) 56 = .ok (.invokevirtual 235, 3) by decide +kernel) (by decide +kernel) (show (decide ((2 : Nat) = mA 176) && decide (176 < q_law)) = true by decide +kernel) rfl (show (0 : Nat) ≤ 8 by decide) (show (2 : Nat) ≤ mL 176 by decide +kernel) rfl (sh_ok hG (by decide +kernel)) (m3 p1)
/-- SoulOfficeModel.daybook(I)I, from 59 -/
theorem b250_59 (hG : Shp G) {v1 u0 x1 x2 : Int}
    (s0 : -2147483648 ≤ u0 ∧ u0 < 2147483648)
    (ex1 : c 188 36 = x1)
    (k2 : (¬ u0 = 0) → T (d + 1) 250 39 [some (aR 188), some (aI v1), none, none, none] [] (G, (q_up c 188 36 (x1 + 1))) Q)
    (ex2 : c 188 16 = x2)
    (z4 : (u0 = 0) → Q (.inl (some (aI ((-2) - x2)))) (G, c)) :
    T (d + 1) 250 59 [some (aR 188), some (aI v1), none, none, none] [aI u0] (G, c) Q := by
  refine e_ne1 (t := 70) (show decode (mC 250) 59 = .ok (.ifCond .ne 11, 3) by decide +kernel) (by decide) s0 (fun p1 => ?_) (fun p1 => ?_)
  · refine e_L (L' := [some (aR 188), some (aI v1), none, none, none]) (st' := [aR 188]) (show decode (mC 250) 70 = .ok (.aload_n 0, 1) by decide +kernel) rfl (by show (if 188 = 0 then none else some (_, _)) = _; rw [if_neg (by decide)]) ?_
    refine e_P (st' := [aR 188, aR 188]) (show decode (mC 250) 71 = .ok (.dup, 1) by decide +kernel) rfl rfl rfl ?_
    refine e_getIx (show decode (mC 250) 72 = .ok (.getfield 366, 3) by decide +kernel) (show pl 12 366 = some (0, 12, 36, 0) by decide +kernel) (by decide) (sh_ok hG (by decide +kernel)) ex1 ?_
    refine e_P (st' := [aI 1, aI x1, aR 188]) (show decode (mC 250) 75 = .ok (.iconst 1, 1) by decide +kernel) rfl rfl rfl ?_
    refine e_P (st' := [aI (x1 + 1), aR 188]) (show decode (mC 250) 76 = .ok (.iadd, 1) by decide +kernel) rfl rfl rfl ?_
    refine e_putI (show decode (mC 250) 77 = .ok (.putfield 366, 3) by decide +kernel) (show pl 12 366 = some (0, 12, 36, 0) by decide +kernel) (by decide) (sh_ok hG (by decide +kernel)) ?_
    refine e_go (t := 39) (show decode (mC 250) 80 = .ok (.goto (-41), 3) by decide +kernel) (by decide) ?_
    exact (k2 p1)
  · refine e_P (st' := [aI (-2)]) (show decode (mC 250) 62 = .ok (.bipush (-2), 2) by decide +kernel) rfl rfl rfl ?_
    refine e_L (L' := [some (aR 188), some (aI v1), none, none, none]) (st' := [aR 188, aI (-2)]) (show decode (mC 250) 64 = .ok (.aload_n 0, 1) by decide +kernel) rfl (by show (if 188 = 0 then none else some (_, _)) = _; rw [if_neg (by decide)]) ?_
    refine e_getIx (show decode (mC 250) 65 = .ok (.getfield 172, 3) by decide +kernel) (show pl 12 172 = some (0, 12, 16, 0) by decide +kernel) (by decide) (sh_ok hG (by decide +kernel)) ex2 ?_
    refine e_P (st' := [aI ((-2) - x2)]) (show decode (mC 250) 68 = .ok (.isub, 1) by decide +kernel) rfl rfl rfl ?_
    exact e_iret (show decode (mC 250) 69 = .ok (.ireturn, 1) by decide +kernel) rfl (z4 p1)
/-- SoulOfficeModel.daybook(I)I, from 87 -/
theorem b250_87 (hG : Shp G) {v1 : Int}
    (k0 : T (d + 1) 250 89 [some (aR 188), some (aI v1), some (aI 0), none, none] [] (G, c) Q) :
    T (d + 1) 250 87 [some (aR 188), some (aI v1), none, none, none] [] (G, c) Q := by
  refine e_P (st' := [aI 0]) (show decode (mC 250) 87 = .ok (.iconst 0, 1) by decide +kernel) rfl rfl rfl ?_
  refine e_L (L' := [some (aR 188), some (aI v1), some (aI 0), none, none]) (st' := []) (show decode (mC 250) 88 = .ok (.istore_n 2, 1) by decide +kernel) rfl rfl ?_
  exact k0
/-- SoulOfficeModel.daybook(I)I, from 89 -/
theorem b250_89 (hG : Shp G) {v1 v2 x1 : Int}
    (s0 : -2147483648 ≤ v2 ∧ v2 < 2147483648)
    (ex1 : c 190 169 = x1)
    (k2 : (4 ≤ v2) → T (d + 1) 250 121 [some (aR 188), some (aI v1), some (aI x1), some (aI (-1)), some (aI 0)] [] (G, c) Q)
    (s3 : (v2 < 4) → 0 ≤ v2)
    (s4 : (v2 < 4) → v2 < 4)
    (k5 : (v2 < 4) → T (d + 1) 250 89 [some (aR 188), some (aI v1), some (aI (v2 + 1)), none, none] [] (G, (q_up c 205 v2 0)) Q) :
    T (d + 1) 250 89 [some (aR 188), some (aI v1), some (aI v2), none, none] [] (G, c) Q := by
  refine e_L (L' := [some (aR 188), some (aI v1), some (aI v2), none, none]) (st' := [aI v2]) (show decode (mC 250) 89 = .ok (.iload_n 2, 1) by decide +kernel) rfl rfl ?_
  refine e_P (st' := [aI 4, aI v2]) (show decode (mC 250) 90 = .ok (.iconst 4, 1) by decide +kernel) rfl rfl rfl ?_
  refine e_ge2 (t := 107) (show decode (mC 250) 91 = .ok (.if_icmp .ge 16, 3) by decide +kernel) (by decide) s0 (by decide) (fun p1 => ?_) (fun p1 => ?_)
  · refine e_L (L' := [some (aR 188), some (aI v1), some (aI v2), none, none]) (st' := [aR 188]) (show decode (mC 250) 107 = .ok (.aload_n 0, 1) by decide +kernel) rfl (by show (if 188 = 0 then none else some (_, _)) = _; rw [if_neg (by decide)]) ?_
    refine e_getR (w := 190) (show decode (mC 250) 108 = .ok (.getfield 33, 3) by decide +kernel) (show pl 12 33 = some (0, 12, 6, 0) by decide +kernel) (by decide) (sh_ok hG (by decide +kernel)) (sh_rf hG (by decide +kernel)) ?_
    refine e_P (st' := [aI 169, aR 190]) (show decode (mC 250) 111 = .ok (.sipush 169, 3) by decide +kernel) rfl rfl rfl ?_
    refine e_ialdx (n := 514) (show decode (mC 250) 114 = .ok (.iaload, 1) by decide +kernel) (sh_ok hG (by decide +kernel)) (sh_ln hG (by decide +kernel)) (by decide) (by decide) (by decide) ex1 ?_
    refine e_L (L' := [some (aR 188), some (aI v1), some (aI x1), none, none]) (st' := []) (show decode (mC 250) 115 = .ok (.istore_n 2, 1) by decide +kernel) rfl rfl ?_
    refine e_P (st' := [aI (-1)]) (show decode (mC 250) 116 = .ok (.iconst (-1), 1) by decide +kernel) rfl rfl rfl ?_
    refine e_L (L' := [some (aR 188), some (aI v1), some (aI x1), some (aI (-1)), none]) (st' := []) (show decode (mC 250) 117 = .ok (.istore_n 3, 1) by decide +kernel) rfl rfl ?_
    refine e_P (st' := [aI 0]) (show decode (mC 250) 118 = .ok (.iconst 0, 1) by decide +kernel) rfl rfl rfl ?_
    refine e_L (L' := [some (aR 188), some (aI v1), some (aI x1), some (aI (-1)), some (aI 0)]) (st' := []) (show decode (mC 250) 119 = .ok (.istore 4, 2) by decide +kernel) rfl rfl ?_
    exact (k2 p1)
  · refine e_L (L' := [some (aR 188), some (aI v1), some (aI v2), none, none]) (st' := [aR 188]) (show decode (mC 250) 94 = .ok (.aload_n 0, 1) by decide +kernel) rfl (by show (if 188 = 0 then none else some (_, _)) = _; rw [if_neg (by decide)]) ?_
    refine e_getR (w := 205) (show decode (mC 250) 95 = .ok (.getfield 83, 3) by decide +kernel) (show pl 12 83 = some (0, 12, 37, 0) by decide +kernel) (by decide) (sh_ok hG (by decide +kernel)) (sh_rf hG (by decide +kernel)) ?_
    refine e_L (L' := [some (aR 188), some (aI v1), some (aI v2), none, none]) (st' := [aI v2, aR 205]) (show decode (mC 250) 98 = .ok (.iload_n 2, 1) by decide +kernel) rfl rfl ?_
    refine e_P (st' := [aI 0, aI v2, aR 205]) (show decode (mC 250) 99 = .ok (.iconst 0, 1) by decide +kernel) rfl rfl rfl ?_
    refine e_iast (n := 4) (show decode (mC 250) 100 = .ok (.iastore, 1) by decide +kernel) (sh_ok hG (by decide +kernel)) (sh_ln hG (by decide +kernel)) (by decide) (s3 p1) (s4 p1) ?_
    refine e_L (L' := [some (aR 188), some (aI v1), some (aI (v2 + 1)), none, none]) (st' := []) (show decode (mC 250) 101 = .ok (.iinc 2 1, 3) by decide +kernel) rfl rfl ?_
    refine e_go (t := 89) (show decode (mC 250) 104 = .ok (.goto (-15), 3) by decide +kernel) (by decide) ?_
    exact (k5 p1)
/-- SoulOfficeModel.daybook(I)I, from 121 -/
theorem b250_121 (hG : Shp G) {v1 v2 v3 v4 x1 x2 x3 : Int} (hQ : ∀ o o' h', q_eqo o o' → Q o h' → Q o' h')
    (ex1 : c 188 36 = x1)
    (s1 : -2147483648 ≤ v4 ∧ v4 < 2147483648)
    (s2 : -2147483648 ≤ x1 ∧ x1 < 2147483648)
    (ex2 : c 190 169 = x2)
    (m4 : (x1 ≤ v4) → TM d 196 [aR 188] (G, (q_up c 205 2 (x2 - v2))) (fun r h' => T (d + 1) 250 204 [some (aR 188), some (aI v1), none, some (aI v3), none] (r.toList ++ [aI 3, aR 205]) h' Q))
    (s5 : (v4 < x1) → -2147483648 ≤ v3 ∧ v3 < 2147483648)
    (ex3 : c 190 169 = x3)
    (m7 : (v4 < x1) → (0 ≤ v3) → TM d 196 [aR 188] (G, (q_up c 205 2 (x3 - v2))) (fun r h' => T (d + 1) 250 204 [some (aR 188), some (aI v1), none, some (aI v3), none] (r.toList ++ [aI 3, aR 205]) h' Q))
    (m8 : (v4 < x1) → (v3 < 0) → TM d 249 [aR 188, aI (3 * v4)] (G, c) (fun r h' => T (d + 1) 250 147 [some (aR 188), some (aI v1), some (aI v2), some (aI v3), some (aI v4)] (r.toList ++ [aI 0, aR 205]) h' Q)) :
    T (d + 1) 250 121 [some (aR 188), some (aI v1), some (aI v2), some (aI v3), some (aI v4)] [] (G, c) Q := by
  refine e_L (L' := [some (aR 188), some (aI v1), some (aI v2), some (aI v3), some (aI v4)]) (st' := [aI v4]) (show decode (mC 250) 121 = .ok (.iload 4, 2) by decide +kernel) rfl rfl ?_
  refine e_L (L' := [some (aR 188), some (aI v1), some (aI v2), some (aI v3), some (aI v4)]) (st' := [aR 188, aI v4]) (show decode (mC 250) 123 = .ok (.aload_n 0, 1) by decide +kernel) rfl (by show (if 188 = 0 then none else some (_, _)) = _; rw [if_neg (by decide)]) ?_
  refine e_getIx (show decode (mC 250) 124 = .ok (.getfield 366, 3) by decide +kernel) (show pl 12 366 = some (0, 12, 36, 0) by decide +kernel) (by decide) (sh_ok hG (by decide +kernel)) ex1 ?_
  refine e_ge2 (t := 179) (show decode (mC 250) 127 = .ok (.if_icmp .ge 52, 3) by decide +kernel) (by decide) s1 s2 (fun p1 => ?_) (fun p1 => ?_)
  · refine e_L (L' := [some (aR 188), some (aI v1), some (aI v2), some (aI v3), some (aI v4)]) (st' := [aR 188]) (show decode (mC 250) 179 = .ok (.aload_n 0, 1) by decide +kernel) rfl (by show (if 188 = 0 then none else some (_, _)) = _; rw [if_neg (by decide)]) ?_
    refine e_getR (w := 205) (show decode (mC 250) 180 = .ok (.getfield 83, 3) by decide +kernel) (show pl 12 83 = some (0, 12, 37, 0) by decide +kernel) (by decide) (sh_ok hG (by decide +kernel)) (sh_rf hG (by decide +kernel)) ?_
    refine e_P (st' := [aI 2, aR 205]) (show decode (mC 250) 183 = .ok (.iconst 2, 1) by decide +kernel) rfl rfl rfl ?_
    refine e_L (L' := [some (aR 188), some (aI v1), some (aI v2), some (aI v3), some (aI v4)]) (st' := [aR 188, aI 2, aR 205]) (show decode (mC 250) 184 = .ok (.aload_n 0, 1) by decide +kernel) rfl (by show (if 188 = 0 then none else some (_, _)) = _; rw [if_neg (by decide)]) ?_
    refine e_getR (w := 190) (show decode (mC 250) 185 = .ok (.getfield 33, 3) by decide +kernel) (show pl 12 33 = some (0, 12, 6, 0) by decide +kernel) (by decide) (sh_ok hG (by decide +kernel)) (sh_rf hG (by decide +kernel)) ?_
    refine e_P (st' := [aI 169, aR 190, aI 2, aR 205]) (show decode (mC 250) 188 = .ok (.sipush 169, 3) by decide +kernel) rfl rfl rfl ?_
    refine e_ialdx (n := 514) (show decode (mC 250) 191 = .ok (.iaload, 1) by decide +kernel) (sh_ok hG (by decide +kernel)) (sh_ln hG (by decide +kernel)) (by decide) (by decide) (by decide) ex2 ?_
    refine e_L (L' := [some (aR 188), some (aI v1), some (aI v2), some (aI v3), some (aI v4)]) (st' := [aI v2, aI x2, aI 2, aR 205]) (show decode (mC 250) 192 = .ok (.iload_n 2, 1) by decide +kernel) rfl rfl ?_
    refine e_P (st' := [aI (x2 - v2), aI 2, aR 205]) (show decode (mC 250) 193 = .ok (.isub, 1) by decide +kernel) rfl rfl rfl ?_
    refine e_iast (n := 4) (show decode (mC 250) 194 = .ok (.iastore, 1) by decide +kernel) (sh_ok hG (by decide +kernel)) (sh_ln hG (by decide +kernel)) (by decide) (by decide) (by decide) ?_
    refine e_L (L' := [some (aR 188), some (aI v1), some (aI v2), some (aI v3), some (aI v4)]) (st' := [aR 188]) (show decode (mC 250) 195 = .ok (.aload_n 0, 1) by decide +kernel) rfl (by show (if 188 = 0 then none else some (_, _)) = _; rw [if_neg (by decide)]) ?_
    refine e_getR (w := 205) (show decode (mC 250) 196 = .ok (.getfield 83, 3) by decide +kernel) (show pl 12 83 = some (0, 12, 37, 0) by decide +kernel) (by decide) (sh_ok hG (by decide +kernel)) (sh_rf hG (by decide +kernel)) ?_
    refine e_P (st' := [aI 3, aR 205]) (show decode (mC 250) 199 = .ok (.iconst 3, 1) by decide +kernel) rfl rfl rfl ?_
    refine e_L (L' := [some (aR 188), some (aI v1), some (aI v2), some (aI v3), some (aI v4)]) (st' := [aR 188, aI 3, aR 205]) (show decode (mC 250) 200 = .ok (.aload_n 0, 1) by decide +kernel) rfl (by show (if 188 = 0 then none else some (_, _)) = _; rw [if_neg (by decide)]) ?_
    exact e_V (as := [aR 188]) (rest := [aI 3, aR 205]) (show decode (mC 250) 201 = .ok (.invokevirtual 261, 3) by decide +kernel) (by decide +kernel) (show (decide ((1 : Nat) = mA 196) && decide (196 < q_law)) = true by decide +kernel) rfl (show (2 : Nat) ≤ 8 by decide) (show (1 : Nat) ≤ mL 196 by decide +kernel) rfl (sh_ok hG (by decide +kernel)) (tm_le hQ (leS (leS (leN (leS (leN leE))))) (m4 p1))
  · refine e_L (L' := [some (aR 188), some (aI v1), some (aI v2), some (aI v3), some (aI v4)]) (st' := [aI v3]) (show decode (mC 250) 130 = .ok (.iload_n 3, 1) by decide +kernel) rfl rfl ?_
    refine e_ge1 (t := 179) (show decode (mC 250) 131 = .ok (.ifCond .ge 48, 3) by decide +kernel) (by decide) (s5 p1) (fun p2 => ?_) (fun p2 => ?_)
    · refine e_L (L' := [some (aR 188), some (aI v1), some (aI v2), some (aI v3), some (aI v4)]) (st' := [aR 188]) (show decode (mC 250) 179 = .ok (.aload_n 0, 1) by decide +kernel) rfl (by show (if 188 = 0 then none else some (_, _)) = _; rw [if_neg (by decide)]) ?_
      refine e_getR (w := 205) (show decode (mC 250) 180 = .ok (.getfield 83, 3) by decide +kernel) (show pl 12 83 = some (0, 12, 37, 0) by decide +kernel) (by decide) (sh_ok hG (by decide +kernel)) (sh_rf hG (by decide +kernel)) ?_
      refine e_P (st' := [aI 2, aR 205]) (show decode (mC 250) 183 = .ok (.iconst 2, 1) by decide +kernel) rfl rfl rfl ?_
      refine e_L (L' := [some (aR 188), some (aI v1), some (aI v2), some (aI v3), some (aI v4)]) (st' := [aR 188, aI 2, aR 205]) (show decode (mC 250) 184 = .ok (.aload_n 0, 1) by decide +kernel) rfl (by show (if 188 = 0 then none else some (_, _)) = _; rw [if_neg (by decide)]) ?_
      refine e_getR (w := 190) (show decode (mC 250) 185 = .ok (.getfield 33, 3) by decide +kernel) (show pl 12 33 = some (0, 12, 6, 0) by decide +kernel) (by decide) (sh_ok hG (by decide +kernel)) (sh_rf hG (by decide +kernel)) ?_
      refine e_P (st' := [aI 169, aR 190, aI 2, aR 205]) (show decode (mC 250) 188 = .ok (.sipush 169, 3) by decide +kernel) rfl rfl rfl ?_
      refine e_ialdx (n := 514) (show decode (mC 250) 191 = .ok (.iaload, 1) by decide +kernel) (sh_ok hG (by decide +kernel)) (sh_ln hG (by decide +kernel)) (by decide) (by decide) (by decide) ex3 ?_
      refine e_L (L' := [some (aR 188), some (aI v1), some (aI v2), some (aI v3), some (aI v4)]) (st' := [aI v2, aI x3, aI 2, aR 205]) (show decode (mC 250) 192 = .ok (.iload_n 2, 1) by decide +kernel) rfl rfl ?_
      refine e_P (st' := [aI (x3 - v2), aI 2, aR 205]) (show decode (mC 250) 193 = .ok (.isub, 1) by decide +kernel) rfl rfl rfl ?_
      refine e_iast (n := 4) (show decode (mC 250) 194 = .ok (.iastore, 1) by decide +kernel) (sh_ok hG (by decide +kernel)) (sh_ln hG (by decide +kernel)) (by decide) (by decide) (by decide) ?_
      refine e_L (L' := [some (aR 188), some (aI v1), some (aI v2), some (aI v3), some (aI v4)]) (st' := [aR 188]) (show decode (mC 250) 195 = .ok (.aload_n 0, 1) by decide +kernel) rfl (by show (if 188 = 0 then none else some (_, _)) = _; rw [if_neg (by decide)]) ?_
      refine e_getR (w := 205) (show decode (mC 250) 196 = .ok (.getfield 83, 3) by decide +kernel) (show pl 12 83 = some (0, 12, 37, 0) by decide +kernel) (by decide) (sh_ok hG (by decide +kernel)) (sh_rf hG (by decide +kernel)) ?_
      refine e_P (st' := [aI 3, aR 205]) (show decode (mC 250) 199 = .ok (.iconst 3, 1) by decide +kernel) rfl rfl rfl ?_
      refine e_L (L' := [some (aR 188), some (aI v1), some (aI v2), some (aI v3), some (aI v4)]) (st' := [aR 188, aI 3, aR 205]) (show decode (mC 250) 200 = .ok (.aload_n 0, 1) by decide +kernel) rfl (by show (if 188 = 0 then none else some (_, _)) = _; rw [if_neg (by decide)]) ?_
      exact e_V (as := [aR 188]) (rest := [aI 3, aR 205]) (show decode (mC 250) 201 = .ok (.invokevirtual 261, 3) by decide +kernel) (by decide +kernel) (show (decide ((1 : Nat) = mA 196) && decide (196 < q_law)) = true by decide +kernel) rfl (show (2 : Nat) ≤ 8 by decide) (show (1 : Nat) ≤ mL 196 by decide +kernel) rfl (sh_ok hG (by decide +kernel)) (tm_le hQ (leS (leS (leN (leS (leN leE))))) (m7 p1 p2))
    · refine e_L (L' := [some (aR 188), some (aI v1), some (aI v2), some (aI v3), some (aI v4)]) (st' := [aR 188]) (show decode (mC 250) 134 = .ok (.aload_n 0, 1) by decide +kernel) rfl (by show (if 188 = 0 then none else some (_, _)) = _; rw [if_neg (by decide)]) ?_
      refine e_getR (w := 205) (show decode (mC 250) 135 = .ok (.getfield 83, 3) by decide +kernel) (show pl 12 83 = some (0, 12, 37, 0) by decide +kernel) (by decide) (sh_ok hG (by decide +kernel)) (sh_rf hG (by decide +kernel)) ?_
      refine e_P (st' := [aI 0, aR 205]) (show decode (mC 250) 138 = .ok (.iconst 0, 1) by decide +kernel) rfl rfl rfl ?_
      refine e_L (L' := [some (aR 188), some (aI v1), some (aI v2), some (aI v3), some (aI v4)]) (st' := [aR 188, aI 0, aR 205]) (show decode (mC 250) 139 = .ok (.aload_n 0, 1) by decide +kernel) rfl (by show (if 188 = 0 then none else some (_, _)) = _; rw [if_neg (by decide)]) ?_
      refine e_P (st' := [aI 3, aR 188, aI 0, aR 205]) (show decode (mC 250) 140 = .ok (.iconst 3, 1) by decide +kernel) rfl rfl rfl ?_
      refine e_L (L' := [some (aR 188), some (aI v1), some (aI v2), some (aI v3), some (aI v4)]) (st' := [aI v4, aI 3, aR 188, aI 0, aR 205]) (show decode (mC 250) 141 = .ok (.iload 4, 2) by decide +kernel) rfl rfl ?_
      refine e_P (st' := [aI (3 * v4), aR 188, aI 0, aR 205]) (show decode (mC 250) 143 = .ok (.imul, 1) by decide +kernel) rfl rfl rfl ?_
      exact e_V (as := [aR 188, aI (3 * v4)]) (rest := [aI 0, aR 205]) (show decode (mC 250) 144 = .ok (.invokevirtual 372, 3) by decide +kernel) (by decide +kernel) (show (decide ((2 : Nat) = mA 249) && decide (249 < q_law)) = true by decide +kernel) rfl (show (2 : Nat) ≤ 8 by decide) (show (2 : Nat) ≤ mL 249 by decide +kernel) rfl (sh_ok hG (by decide +kernel)) (m8 p1 p2)
/-- SoulOfficeModel.daybook(I)I, from 147 -/
theorem b250_147 (hG : Shp G) {v1 v2 v3 v4 u1 u2 x1 x2 : Int}
    (s0 : 0 ≤ u1)
    (s1 : u1 < 4)
    (ex1 : (q_up c 205 u1 u2) 205 0 = x1)
    (s3 : -2147483648 ≤ x1 ∧ x1 < 2147483648)
    (ex2 : (q_up c 205 u1 u2) 205 1 = x2)
    (k5 : (x1 ≤ 0) → T (d + 1) 250 121 [some (aR 188), some (aI v1), some (aI v2), some (aI v3), some (aI (v4 + 1))] [] (G, (q_up (q_up c 205 u1 u2) 205 1 (x2 + 1))) Q)
    (k6 : (0 < x1) → T (d + 1) 250 121 [some (aR 188), some (aI v1), some (aI v2), some (aI v4), some (aI (v4 + 1))] [] (G, (q_up c 205 u1 u2)) Q) :
    T (d + 1) 250 147 [some (aR 188), some (aI v1), some (aI v2), some (aI v3), some (aI v4)] [aI u2, aI u1, aR 205] (G, c) Q := by
  refine e_iast (n := 4) (show decode (mC 250) 147 = .ok (.iastore, 1) by decide +kernel) (sh_ok hG (by decide +kernel)) (sh_ln hG (by decide +kernel)) (by decide) s0 s1 ?_
  refine e_L (L' := [some (aR 188), some (aI v1), some (aI v2), some (aI v3), some (aI v4)]) (st' := [aR 188]) (show decode (mC 250) 148 = .ok (.aload_n 0, 1) by decide +kernel) rfl (by show (if 188 = 0 then none else some (_, _)) = _; rw [if_neg (by decide)]) ?_
  refine e_getR (w := 205) (show decode (mC 250) 149 = .ok (.getfield 83, 3) by decide +kernel) (show pl 12 83 = some (0, 12, 37, 0) by decide +kernel) (by decide) (sh_ok hG (by decide +kernel)) (sh_rf hG (by decide +kernel)) ?_
  refine e_P (st' := [aI 0, aR 205]) (show decode (mC 250) 152 = .ok (.iconst 0, 1) by decide +kernel) rfl rfl rfl ?_
  refine e_ialdx (n := 4) (show decode (mC 250) 153 = .ok (.iaload, 1) by decide +kernel) (sh_ok hG (by decide +kernel)) (sh_ln hG (by decide +kernel)) (by decide) (by decide) (by decide) ex1 ?_
  refine e_le1 (t := 163) (show decode (mC 250) 154 = .ok (.ifCond .le 9, 3) by decide +kernel) (by decide) s3 (fun p1 => ?_) (fun p1 => ?_)
  · refine e_L (L' := [some (aR 188), some (aI v1), some (aI v2), some (aI v3), some (aI v4)]) (st' := [aR 188]) (show decode (mC 250) 163 = .ok (.aload_n 0, 1) by decide +kernel) rfl (by show (if 188 = 0 then none else some (_, _)) = _; rw [if_neg (by decide)]) ?_
    refine e_getR (w := 205) (show decode (mC 250) 164 = .ok (.getfield 83, 3) by decide +kernel) (show pl 12 83 = some (0, 12, 37, 0) by decide +kernel) (by decide) (sh_ok hG (by decide +kernel)) (sh_rf hG (by decide +kernel)) ?_
    refine e_P (st' := [aI 1, aR 205]) (show decode (mC 250) 167 = .ok (.iconst 1, 1) by decide +kernel) rfl rfl rfl ?_
    refine e_P (st' := [aI 1, aR 205, aI 1, aR 205]) (show decode (mC 250) 168 = .ok (.dup2, 1) by decide +kernel) rfl rfl rfl ?_
    refine e_ialdx (n := 4) (show decode (mC 250) 169 = .ok (.iaload, 1) by decide +kernel) (sh_ok hG (by decide +kernel)) (sh_ln hG (by decide +kernel)) (by decide) (by decide) (by decide) ex2 ?_
    refine e_P (st' := [aI 1, aI x2, aI 1, aR 205]) (show decode (mC 250) 170 = .ok (.iconst 1, 1) by decide +kernel) rfl rfl rfl ?_
    refine e_P (st' := [aI (x2 + 1), aI 1, aR 205]) (show decode (mC 250) 171 = .ok (.iadd, 1) by decide +kernel) rfl rfl rfl ?_
    refine e_iast (n := 4) (show decode (mC 250) 172 = .ok (.iastore, 1) by decide +kernel) (sh_ok hG (by decide +kernel)) (sh_ln hG (by decide +kernel)) (by decide) (by decide) (by decide) ?_
    refine e_L (L' := [some (aR 188), some (aI v1), some (aI v2), some (aI v3), some (aI (v4 + 1))]) (st' := []) (show decode (mC 250) 173 = .ok (.iinc 4 1, 3) by decide +kernel) rfl rfl ?_
    refine e_go (t := 121) (show decode (mC 250) 176 = .ok (.goto (-55), 3) by decide +kernel) (by decide) ?_
    exact (k5 p1)
  · refine e_L (L' := [some (aR 188), some (aI v1), some (aI v2), some (aI v3), some (aI v4)]) (st' := [aI v4]) (show decode (mC 250) 157 = .ok (.iload 4, 2) by decide +kernel) rfl rfl ?_
    refine e_L (L' := [some (aR 188), some (aI v1), some (aI v2), some (aI v4), some (aI v4)]) (st' := []) (show decode (mC 250) 159 = .ok (.istore_n 3, 1) by decide +kernel) rfl rfl ?_
    refine e_go (t := 173) (show decode (mC 250) 160 = .ok (.goto 13, 3) by decide +kernel) (by decide) ?_
    refine e_L (L' := [some (aR 188), some (aI v1), some (aI v2), some (aI v4), some (aI (v4 + 1))]) (st' := []) (show decode (mC 250) 173 = .ok (.iinc 4 1, 3) by decide +kernel) rfl rfl ?_
    refine e_go (t := 121) (show decode (mC 250) 176 = .ok (.goto (-55), 3) by decide +kernel) (by decide) ?_
    exact (k6 p1)
/-- SoulOfficeModel.daybook(I)I, from 204 -/
theorem b250_204 (hG : Shp G) {v1 v3 u1 u2 x1 : Int} (hQ : ∀ o o' h', q_eqo o o' → Q o h' → Q o' h')
    (s0 : 0 ≤ u1)
    (s1 : u1 < 4)
    (s2 : -2147483648 ≤ v1 ∧ v1 < 2147483648)
    (k3 : (¬ v1 = 1) → (¬ v1 = 0) → T (d + 1) 250 278 [none, none, none, some (aI v3), none] [] (G, (q_up (q_up c 205 u1 u2) 188 38 1)) Q)
    (m4 : (¬ v1 = 1) → (v1 = 0) → TM d 215 [aR 188] (G, (q_up (q_up c 205 u1 u2) 188 38 1)) (fun r h' => T (d + 1) 250 278 [none, none, none, some (aI v3), none] (r.toList ++ []) h' Q))
    (ex1 : (q_up (q_up c 205 u1 u2) 188 38 1) 205 1 = x1)
    (s6 : (v1 = 1) → -2147483648 ≤ x1 ∧ x1 < 2147483648)
    (k7 : (v1 = 1) → (x1 ≤ 0) → (¬ v1 = 0) → T (d + 1) 250 278 [none, none, none, some (aI v3), none] [] (G, (q_up (q_up c 205 u1 u2) 188 38 1)) Q)
    (m8 : (v1 = 1) → (x1 ≤ 0) → (v1 = 0) → TM d 215 [aR 188] (G, (q_up (q_up c 205 u1 u2) 188 38 1)) (fun r h' => T (d + 1) 250 278 [none, none, none, some (aI v3), none] (r.toList ++ []) h' Q))
    (m9 : (v1 = 1) → (0 < x1) → TM d 212 [aR 188] (G, (q_up (q_up c 205 u1 u2) 188 38 1)) (fun r h' => T (d + 1) 250 228 [some (aR 188), some (aI v1), none, some (aI v3), none] (r.toList ++ []) h' Q)) :
    T (d + 1) 250 204 [some (aR 188), some (aI v1), none, some (aI v3), none] [aI u2, aI u1, aR 205] (G, c) Q := by
  refine e_iast (n := 4) (show decode (mC 250) 204 = .ok (.iastore, 1) by decide +kernel) (sh_ok hG (by decide +kernel)) (sh_ln hG (by decide +kernel)) (by decide) s0 s1 ?_
  refine e_L (L' := [some (aR 188), some (aI v1), none, some (aI v3), none]) (st' := [aR 188]) (show decode (mC 250) 205 = .ok (.aload_n 0, 1) by decide +kernel) rfl (by show (if 188 = 0 then none else some (_, _)) = _; rw [if_neg (by decide)]) ?_
  refine e_P (st' := [aI 1, aR 188]) (show decode (mC 250) 206 = .ok (.iconst 1, 1) by decide +kernel) rfl rfl rfl ?_
  refine e_putZ (show decode (mC 250) 207 = .ok (.putfield 375, 3) by decide +kernel) (show pl 12 375 = some (0, 12, 38, 0) by decide +kernel) (by decide) (sh_ok hG (by decide +kernel)) (by decide) ?_
  refine e_L (L' := [some (aR 188), some (aI v1), none, some (aI v3), none]) (st' := [aI v1]) (show decode (mC 250) 210 = .ok (.iload_n 1, 1) by decide +kernel) rfl rfl ?_
  refine e_P (st' := [aI 1, aI v1]) (show decode (mC 250) 211 = .ok (.iconst 1, 1) by decide +kernel) rfl rfl rfl ?_
  refine e_ne2 (t := 270) (show decode (mC 250) 212 = .ok (.if_icmp .ne 58, 3) by decide +kernel) (by decide) s2 (by decide) (fun p1 => ?_) (fun p1 => ?_)
  · refine e_L (L' := [some (aR 188), some (aI v1), none, some (aI v3), none]) (st' := [aI v1]) (show decode (mC 250) 270 = .ok (.iload_n 1, 1) by decide +kernel) rfl rfl ?_
    refine e_ne1 (t := 278) (show decode (mC 250) 271 = .ok (.ifCond .ne 7, 3) by decide +kernel) (by decide) s2 (fun p2 => ?_) (fun p2 => ?_)
    · exact T_le hQ (leN (leN (leS (leS (leS leE))))) (k3 p1 p2)
    · refine e_L (L' := [some (aR 188), some (aI v1), none, some (aI v3), none]) (st' := [aR 188]) (show decode (mC 250) 274 = .ok (.aload_n 0, 1) by decide +kernel) rfl (by show (if 188 = 0 then none else some (_, _)) = _; rw [if_neg (by decide)]) ?_
      exact e_V (as := [aR 188]) (rest := []) (show decode (mC 250) 275 = .ok (.invokevirtual 305, 3) by decide +kernel) (by decide +kernel) (show (decide ((1 : Nat) = mA 215) && decide (215 < q_law)) = true by decide +kernel) rfl (show (0 : Nat) ≤ 8 by decide) (show (1 : Nat) ≤ mL 215 by decide +kernel) rfl (sh_ok hG (by decide +kernel)) (tm_le hQ (leN (leN (leS (leS (leS leE))))) (m4 p1 p2))
  · refine e_L (L' := [some (aR 188), some (aI v1), none, some (aI v3), none]) (st' := [aR 188]) (show decode (mC 250) 215 = .ok (.aload_n 0, 1) by decide +kernel) rfl (by show (if 188 = 0 then none else some (_, _)) = _; rw [if_neg (by decide)]) ?_
    refine e_getR (w := 205) (show decode (mC 250) 216 = .ok (.getfield 83, 3) by decide +kernel) (show pl 12 83 = some (0, 12, 37, 0) by decide +kernel) (by decide) (sh_ok hG (by decide +kernel)) (sh_rf hG (by decide +kernel)) ?_
    refine e_P (st' := [aI 1, aR 205]) (show decode (mC 250) 219 = .ok (.iconst 1, 1) by decide +kernel) rfl rfl rfl ?_
    refine e_ialdx (n := 4) (show decode (mC 250) 220 = .ok (.iaload, 1) by decide +kernel) (sh_ok hG (by decide +kernel)) (sh_ln hG (by decide +kernel)) (by decide) (by decide) (by decide) ex1 ?_
    refine e_le1 (t := 270) (show decode (mC 250) 221 = .ok (.ifCond .le 49, 3) by decide +kernel) (by decide) (s6 p1) (fun p2 => ?_) (fun p2 => ?_)
    · refine e_L (L' := [some (aR 188), some (aI v1), none, some (aI v3), none]) (st' := [aI v1]) (show decode (mC 250) 270 = .ok (.iload_n 1, 1) by decide +kernel) rfl rfl ?_
      refine e_ne1 (t := 278) (show decode (mC 250) 271 = .ok (.ifCond .ne 7, 3) by decide +kernel) (by decide) s2 (fun p3 => ?_) (fun p3 => ?_)
      · exact T_le hQ (leN (leN (leS (leS (leS leE))))) (k7 p1 p2 p3)
      · refine e_L (L' := [some (aR 188), some (aI v1), none, some (aI v3), none]) (st' := [aR 188]) (show decode (mC 250) 274 = .ok (.aload_n 0, 1) by decide +kernel) rfl (by show (if 188 = 0 then none else some (_, _)) = _; rw [if_neg (by decide)]) ?_
        exact e_V (as := [aR 188]) (rest := []) (show decode (mC 250) 275 = .ok (.invokevirtual 305, 3) by decide +kernel) (by decide +kernel) (show (decide ((1 : Nat) = mA 215) && decide (215 < q_law)) = true by decide +kernel) rfl (show (0 : Nat) ≤ 8 by decide) (show (1 : Nat) ≤ mL 215 by decide +kernel) rfl (sh_ok hG (by decide +kernel)) (tm_le hQ (leN (leN (leS (leS (leS leE))))) (m8 p1 p2 p3))
    · refine e_L (L' := [some (aR 188), some (aI v1), none, some (aI v3), none]) (st' := [aR 188]) (show decode (mC 250) 224 = .ok (.aload_n 0, 1) by decide +kernel) rfl (by show (if 188 = 0 then none else some (_, _)) = _; rw [if_neg (by decide)]) ?_
      exact e_V (as := [aR 188]) (rest := []) (show decode (mC 250) 225 = .ok (.invokevirtual 290, 3) by decide +kernel) (by decide +kernel) (show (decide ((1 : Nat) = mA 212) && decide (212 < q_law)) = true by decide +kernel) rfl (show (0 : Nat) ≤ 8 by decide) (show (1 : Nat) ≤ mL 212 by decide +kernel) rfl (sh_ok hG (by decide +kernel)) (m9 p1 p2)
/-- SoulOfficeModel.daybook(I)I, from 228 -/
theorem b250_228 (hG : Shp G) {v1 v3 : Int}
    (k0 : T (d + 1) 250 231 [some (aR 188), some (aI v1), none, some (aI v3), some (aI 0)] [] (G, c) Q) :
    T (d + 1) 250 228 [some (aR 188), some (aI v1), none, some (aI v3), none] [] (G, c) Q := by
  refine e_P (st' := [aI 0]) (show decode (mC 250) 228 = .ok (.iconst 0, 1) by decide +kernel) rfl rfl rfl ?_
  refine e_L (L' := [some (aR 188), some (aI v1), none, some (aI v3), some (aI 0)]) (st' := []) (show decode (mC 250) 229 = .ok (.istore 4, 2) by decide +kernel) rfl rfl ?_
  exact k0
/-- SoulOfficeModel.daybook(I)I, from 231 -/
theorem b250_231 (hG : Shp G) {v1 v3 v4 x1 x2 : Int} (hQ : ∀ o o' h', q_eqo o o' → Q o h' → Q o' h')
    (s0 : -2147483648 ≤ v4 ∧ v4 < 2147483648)
    (s1 : (165 ≤ v4) → -2147483648 ≤ v1 ∧ v1 < 2147483648)
    (k2 : (165 ≤ v4) → (¬ v1 = 0) → T (d + 1) 250 278 [none, none, none, some (aI v3), none] [] (G, c) Q)
    (m3 : (165 ≤ v4) → (v1 = 0) → TM d 215 [aR 188] (G, c) (fun r h' => T (d + 1) 250 278 [none, none, none, some (aI v3), none] (r.toList ++ []) h' Q))
    (ex1 : c 188 23 = x1)
    (s5 : (v4 < 165) → 0 ≤ v4)
    (s6 : (v4 < 165) → v4 < 165)
    (ex2 : c 196 v4 = x2)
    (s8 : (v4 < 165) → 0 ≤ ((165 * (x1 - 1)) + v4))
    (s9 : (v4 < 165) → ((165 * (x1 - 1)) + v4) < 1320)
    (k10 : (v4 < 165) → T (d + 1) 250 231 [some (aR 188), some (aI v1), none, some (aI v3), some (aI (v4 + 1))] [] (G, (q_up c 195 ((165 * (x1 - 1)) + v4) x2)) Q) :
    T (d + 1) 250 231 [some (aR 188), some (aI v1), none, some (aI v3), some (aI v4)] [] (G, c) Q := by
  refine e_L (L' := [some (aR 188), some (aI v1), none, some (aI v3), some (aI v4)]) (st' := [aI v4]) (show decode (mC 250) 231 = .ok (.iload 4, 2) by decide +kernel) rfl rfl ?_
  refine e_P (st' := [aI 165, aI v4]) (show decode (mC 250) 233 = .ok (.sipush 165, 3) by decide +kernel) rfl rfl rfl ?_
  refine e_ge2 (t := 270) (show decode (mC 250) 236 = .ok (.if_icmp .ge 34, 3) by decide +kernel) (by decide) s0 (by decide) (fun p1 => ?_) (fun p1 => ?_)
  · refine e_L (L' := [some (aR 188), some (aI v1), none, some (aI v3), some (aI v4)]) (st' := [aI v1]) (show decode (mC 250) 270 = .ok (.iload_n 1, 1) by decide +kernel) rfl rfl ?_
    refine e_ne1 (t := 278) (show decode (mC 250) 271 = .ok (.ifCond .ne 7, 3) by decide +kernel) (by decide) (s1 p1) (fun p2 => ?_) (fun p2 => ?_)
    · exact T_le hQ (leN (leN (leS (leS (leN leE))))) (k2 p1 p2)
    · refine e_L (L' := [some (aR 188), some (aI v1), none, some (aI v3), some (aI v4)]) (st' := [aR 188]) (show decode (mC 250) 274 = .ok (.aload_n 0, 1) by decide +kernel) rfl (by show (if 188 = 0 then none else some (_, _)) = _; rw [if_neg (by decide)]) ?_
      exact e_V (as := [aR 188]) (rest := []) (show decode (mC 250) 275 = .ok (.invokevirtual 305, 3) by decide +kernel) (by decide +kernel) (show (decide ((1 : Nat) = mA 215) && decide (215 < q_law)) = true by decide +kernel) rfl (show (0 : Nat) ≤ 8 by decide) (show (1 : Nat) ≤ mL 215 by decide +kernel) rfl (sh_ok hG (by decide +kernel)) (tm_le hQ (leN (leN (leS (leS (leN leE))))) (m3 p1 p2))
  · refine e_L (L' := [some (aR 188), some (aI v1), none, some (aI v3), some (aI v4)]) (st' := [aR 188]) (show decode (mC 250) 239 = .ok (.aload_n 0, 1) by decide +kernel) rfl (by show (if 188 = 0 then none else some (_, _)) = _; rw [if_neg (by decide)]) ?_
    refine e_getR (w := 195) (show decode (mC 250) 240 = .ok (.getfield 50, 3) by decide +kernel) (show pl 12 50 = some (0, 12, 21, 0) by decide +kernel) (by decide) (sh_ok hG (by decide +kernel)) (sh_rf hG (by decide +kernel)) ?_
    refine e_P (st' := [aI 165, aR 195]) (show decode (mC 250) 243 = .ok (.sipush 165, 3) by decide +kernel) rfl rfl rfl ?_
    refine e_L (L' := [some (aR 188), some (aI v1), none, some (aI v3), some (aI v4)]) (st' := [aR 188, aI 165, aR 195]) (show decode (mC 250) 246 = .ok (.aload_n 0, 1) by decide +kernel) rfl (by show (if 188 = 0 then none else some (_, _)) = _; rw [if_neg (by decide)]) ?_
    refine e_getIx (show decode (mC 250) 247 = .ok (.getfield 238, 3) by decide +kernel) (show pl 12 238 = some (0, 12, 23, 0) by decide +kernel) (by decide) (sh_ok hG (by decide +kernel)) ex1 ?_
    refine e_P (st' := [aI 1, aI x1, aI 165, aR 195]) (show decode (mC 250) 250 = .ok (.iconst 1, 1) by decide +kernel) rfl rfl rfl ?_
    refine e_P (st' := [aI (x1 - 1), aI 165, aR 195]) (show decode (mC 250) 251 = .ok (.isub, 1) by decide +kernel) rfl rfl rfl ?_
    refine e_P (st' := [aI (165 * (x1 - 1)), aR 195]) (show decode (mC 250) 252 = .ok (.imul, 1) by decide +kernel) rfl rfl rfl ?_
    refine e_L (L' := [some (aR 188), some (aI v1), none, some (aI v3), some (aI v4)]) (st' := [aI v4, aI (165 * (x1 - 1)), aR 195]) (show decode (mC 250) 253 = .ok (.iload 4, 2) by decide +kernel) rfl rfl ?_
    refine e_P (st' := [aI ((165 * (x1 - 1)) + v4), aR 195]) (show decode (mC 250) 255 = .ok (.iadd, 1) by decide +kernel) rfl rfl rfl ?_
    refine e_L (L' := [some (aR 188), some (aI v1), none, some (aI v3), some (aI v4)]) (st' := [aR 188, aI ((165 * (x1 - 1)) + v4), aR 195]) (show decode (mC 250) 256 = .ok (.aload_n 0, 1) by decide +kernel) rfl (by show (if 188 = 0 then none else some (_, _)) = _; rw [if_neg (by decide)]) ?_
    refine e_getR (w := 196) (show decode (mC 250) 257 = .ok (.getfield 53, 3) by decide +kernel) (show pl 12 53 = some (0, 12, 22, 0) by decide +kernel) (by decide) (sh_ok hG (by decide +kernel)) (sh_rf hG (by decide +kernel)) ?_
    refine e_L (L' := [some (aR 188), some (aI v1), none, some (aI v3), some (aI v4)]) (st' := [aI v4, aR 196, aI ((165 * (x1 - 1)) + v4), aR 195]) (show decode (mC 250) 260 = .ok (.iload 4, 2) by decide +kernel) rfl rfl ?_
    refine e_ialdx (n := 165) (show decode (mC 250) 262 = .ok (.iaload, 1) by decide +kernel) (sh_ok hG (by decide +kernel)) (sh_ln hG (by decide +kernel)) (by decide) (s5 p1) (s6 p1) ex2 ?_
    refine e_iast (n := 1320) (show decode (mC 250) 263 = .ok (.iastore, 1) by decide +kernel) (sh_ok hG (by decide +kernel)) (sh_ln hG (by decide +kernel)) (by decide) (s8 p1) (s9 p1) ?_
    refine e_L (L' := [some (aR 188), some (aI v1), none, some (aI v3), some (aI (v4 + 1))]) (st' := []) (show decode (mC 250) 264 = .ok (.iinc 4 1, 3) by decide +kernel) rfl rfl ?_
    refine e_go (t := 231) (show decode (mC 250) 267 = .ok (.goto (-36), 3) by decide +kernel) (by decide) ?_
    exact (k10 p1)
/-- SoulOfficeModel.daybook(I)I, from 278 -/
theorem b250_278 (hG : Shp G) {v3 : Int}
    (z0 : Q (.inl (some (aI v3))) (G, c)) :
    T (d + 1) 250 278 [none, none, none, some (aI v3), none] [] (G, c) Q := by
  refine e_L (L' := [none, none, none, some (aI v3), none]) (st' := [aI v3]) (show decode (mC 250) 278 = .ok (.iload_n 3, 1) by decide +kernel) rfl rfl ?_
  exact e_iret (show decode (mC 250) 279 = .ok (.ireturn, 1) by decide +kernel) rfl z0
/-- SoulOfficeModel.booked(I)I, from 0 -/
theorem b251_0 (hG : Shp G) {v1 x1 : Int}
    (ex1 : (q_up c 188 0 0) 188 38 = x1)
    (s1 : -2147483648 ≤ x1 ∧ x1 < 2147483648)
    (z2 : (x1 = 0) → Q (.inl (some (aI (-1)))) (G, (q_up c 188 0 0)))
    (m3 : (¬ x1 = 0) → TM d 164 [aI v1, aI 0, aI 3] (G, (q_up c 188 0 0)) (fun r h' => T (d + 1) 251 18 [some (aR 188), some (aI v1)] (r.toList ++ []) h' Q)) :
    T (d + 1) 251 0 [some (aR 188), some (aI v1)] [] (G, c) Q := by
  refine e_L (L' := [some (aR 188), some (aI v1)]) (st' := [aR 188]) (show decode (mC 251) 0 = .ok (.aload_n 0, 1) by decide +kernel) rfl (by show (if 188 = 0 then none else some (_, _)) = _; rw [if_neg (by decide)]) ?_
  refine e_P (st' := [aI 0, aR 188]) (show decode (mC 251) 1 = .ok (.iconst 0, 1) by decide +kernel) rfl rfl rfl ?_
  refine e_putI (show decode (mC 251) 2 = .ok (.putfield 1, 3) by decide +kernel) (show pl 12 1 = some (0, 12, 0, 0) by decide +kernel) (by decide) (sh_ok hG (by decide +kernel)) ?_
  refine e_L (L' := [some (aR 188), some (aI v1)]) (st' := [aR 188]) (show decode (mC 251) 5 = .ok (.aload_n 0, 1) by decide +kernel) rfl (by show (if 188 = 0 then none else some (_, _)) = _; rw [if_neg (by decide)]) ?_
  refine e_getIx (show decode (mC 251) 6 = .ok (.getfield 375, 3) by decide +kernel) (show pl 12 375 = some (0, 12, 38, 0) by decide +kernel) (by decide) (sh_ok hG (by decide +kernel)) ex1 ?_
  refine e_eq1 (t := 30) (show decode (mC 251) 9 = .ok (.ifCond .eq 21, 3) by decide +kernel) (by decide) s1 (fun p1 => ?_) (fun p1 => ?_)
  · refine e_P (st' := [aI (-1)]) (show decode (mC 251) 30 = .ok (.iconst (-1), 1) by decide +kernel) rfl rfl rfl ?_
    exact e_iret (show decode (mC 251) 31 = .ok (.ireturn, 1) by decide +kernel) rfl (z2 p1)
  · refine e_L (L' := [some (aR 188), some (aI v1)]) (st' := [aI v1]) (show decode (mC 251) 12 = .ok (.iload_n 1, 1) by decide +kernel) rfl rfl ?_
    refine e_P (st' := [aI 0, aI v1]) (show decode (mC 251) 13 = .ok (.iconst 0, 1) by decide +kernel) rfl rfl rfl ?_
    refine e_P (st' := [aI 3, aI 0, aI v1]) (show decode (mC 251) 14 = .ok (.iconst 3, 1) by decide +kernel) rfl rfl rfl ?_
    exact e_S (as := [aI v1, aI 0, aI 3]) (rest := []) (show decode (mC 251) 15 = .ok (.invokestatic 184, 3) by decide +kernel) (by decide +kernel) (show (decide ((3 : Nat) = mA 164) && decide (164 < q_law)) = true by decide +kernel) rfl (show (0 : Nat) ≤ 8 by decide) (show (3 : Nat) ≤ mL 164 by decide +kernel) (m3 p1)
/-- SoulOfficeModel.booked(I)I, from 18 -/
theorem b251_18 (hG : Shp G) {v1 u0 x1 : Int}
    (s0 : -2147483648 ≤ u0 ∧ u0 < 2147483648)
    (z1 : (u0 = 0) → Q (.inl (some (aI (-1)))) (G, c))
    (s2 : (¬ u0 = 0) → 0 ≤ v1)
    (s3 : (¬ u0 = 0) → v1 < 4)
    (ex1 : c 205 v1 = x1)
    (z5 : (¬ u0 = 0) → Q (.inl (some (aI x1))) (G, c)) :
    T (d + 1) 251 18 [some (aR 188), some (aI v1)] [aI u0] (G, c) Q := by
  refine e_eq1 (t := 30) (show decode (mC 251) 18 = .ok (.ifCond .eq 12, 3) by decide +kernel) (by decide) s0 (fun p1 => ?_) (fun p1 => ?_)
  · refine e_P (st' := [aI (-1)]) (show decode (mC 251) 30 = .ok (.iconst (-1), 1) by decide +kernel) rfl rfl rfl ?_
    exact e_iret (show decode (mC 251) 31 = .ok (.ireturn, 1) by decide +kernel) rfl (z1 p1)
  · refine e_L (L' := [some (aR 188), some (aI v1)]) (st' := [aR 188]) (show decode (mC 251) 21 = .ok (.aload_n 0, 1) by decide +kernel) rfl (by show (if 188 = 0 then none else some (_, _)) = _; rw [if_neg (by decide)]) ?_
    refine e_getR (w := 205) (show decode (mC 251) 22 = .ok (.getfield 83, 3) by decide +kernel) (show pl 12 83 = some (0, 12, 37, 0) by decide +kernel) (by decide) (sh_ok hG (by decide +kernel)) (sh_rf hG (by decide +kernel)) ?_
    refine e_L (L' := [some (aR 188), some (aI v1)]) (st' := [aI v1, aR 205]) (show decode (mC 251) 25 = .ok (.iload_n 1, 1) by decide +kernel) rfl rfl ?_
    refine e_ialdx (n := 4) (show decode (mC 251) 26 = .ok (.iaload, 1) by decide +kernel) (sh_ok hG (by decide +kernel)) (sh_ln hG (by decide +kernel)) (by decide) (s2 p1) (s3 p1) ex1 ?_
    refine e_go (t := 31) (show decode (mC 251) 27 = .ok (.goto 4, 3) by decide +kernel) (by decide) ?_
    exact e_iret (show decode (mC 251) 31 = .ok (.ireturn, 1) by decide +kernel) rfl (z5 p1)
/-- SoulOfficeModel.code(III)V, from 0 -/
theorem b252_0 (hG : Shp G) {v1 v2 v3 x1 x2 x3 x4 : Int}
    (ex1 : c 188 40 = x1)
    (s1 : 0 ≤ (3 * x1))
    (s2 : (3 * x1) < 135)
    (ex2 : (q_up c 192 (3 * x1) v1) 188 40 = x2)
    (s4 : 0 ≤ ((3 * x2) + 1))
    (s5 : ((3 * x2) + 1) < 135)
    (ex3 : (q_up (q_up c 192 (3 * x1) v1) 192 ((3 * x2) + 1) v2) 188 40 = x3)
    (s7 : 0 ≤ ((3 * x3) + 2))
    (s8 : ((3 * x3) + 2) < 135)
    (ex4 : (q_up (q_up (q_up c 192 (3 * x1) v1) 192 ((3 * x2) + 1) v2) 192 ((3 * x3) + 2) v3) 188 40 = x4)
    (z10 : Q (.inl none) (G, (q_up (q_up (q_up (q_up c 192 (3 * x1) v1) 192 ((3 * x2) + 1) v2) 192 ((3 * x3) + 2) v3) 188 40 (x4 + 1)))) :
    T d 252 0 [some (aR 188), some (aI v1), some (aI v2), some (aI v3)] [] (G, c) Q := by
  refine e_L (L' := [some (aR 188), some (aI v1), some (aI v2), some (aI v3)]) (st' := [aR 188]) (show decode (mC 252) 0 = .ok (.aload_n 0, 1) by decide +kernel) rfl (by show (if 188 = 0 then none else some (_, _)) = _; rw [if_neg (by decide)]) ?_
  refine e_getR (w := 192) (show decode (mC 252) 1 = .ok (.getfield 40, 3) by decide +kernel) (show pl 12 40 = some (0, 12, 8, 0) by decide +kernel) (by decide) (sh_ok hG (by decide +kernel)) (sh_rf hG (by decide +kernel)) ?_
  refine e_P (st' := [aI 3, aR 192]) (show decode (mC 252) 4 = .ok (.iconst 3, 1) by decide +kernel) rfl rfl rfl ?_
  refine e_L (L' := [some (aR 188), some (aI v1), some (aI v2), some (aI v3)]) (st' := [aR 188, aI 3, aR 192]) (show decode (mC 252) 5 = .ok (.aload_n 0, 1) by decide +kernel) rfl (by show (if 188 = 0 then none else some (_, _)) = _; rw [if_neg (by decide)]) ?_
  refine e_getIx (show decode (mC 252) 6 = .ok (.getfield 378, 3) by decide +kernel) (show pl 12 378 = some (0, 12, 40, 0) by decide +kernel) (by decide) (sh_ok hG (by decide +kernel)) ex1 ?_
  refine e_P (st' := [aI (3 * x1), aR 192]) (show decode (mC 252) 9 = .ok (.imul, 1) by decide +kernel) rfl rfl rfl ?_
  refine e_L (L' := [some (aR 188), some (aI v1), some (aI v2), some (aI v3)]) (st' := [aI v1, aI (3 * x1), aR 192]) (show decode (mC 252) 10 = .ok (.iload_n 1, 1) by decide +kernel) rfl rfl ?_
  refine e_iast (n := 135) (show decode (mC 252) 11 = .ok (.iastore, 1) by decide +kernel) (sh_ok hG (by decide +kernel)) (sh_ln hG (by decide +kernel)) (by decide) s1 s2 ?_
  refine e_L (L' := [some (aR 188), some (aI v1), some (aI v2), some (aI v3)]) (st' := [aR 188]) (show decode (mC 252) 12 = .ok (.aload_n 0, 1) by decide +kernel) rfl (by show (if 188 = 0 then none else some (_, _)) = _; rw [if_neg (by decide)]) ?_
  refine e_getR (w := 192) (show decode (mC 252) 13 = .ok (.getfield 40, 3) by decide +kernel) (show pl 12 40 = some (0, 12, 8, 0) by decide +kernel) (by decide) (sh_ok hG (by decide +kernel)) (sh_rf hG (by decide +kernel)) ?_
  refine e_P (st' := [aI 3, aR 192]) (show decode (mC 252) 16 = .ok (.iconst 3, 1) by decide +kernel) rfl rfl rfl ?_
  refine e_L (L' := [some (aR 188), some (aI v1), some (aI v2), some (aI v3)]) (st' := [aR 188, aI 3, aR 192]) (show decode (mC 252) 17 = .ok (.aload_n 0, 1) by decide +kernel) rfl (by show (if 188 = 0 then none else some (_, _)) = _; rw [if_neg (by decide)]) ?_
  refine e_getIx (show decode (mC 252) 18 = .ok (.getfield 378, 3) by decide +kernel) (show pl 12 378 = some (0, 12, 40, 0) by decide +kernel) (by decide) (sh_ok hG (by decide +kernel)) ex2 ?_
  refine e_P (st' := [aI (3 * x2), aR 192]) (show decode (mC 252) 21 = .ok (.imul, 1) by decide +kernel) rfl rfl rfl ?_
  refine e_P (st' := [aI 1, aI (3 * x2), aR 192]) (show decode (mC 252) 22 = .ok (.iconst 1, 1) by decide +kernel) rfl rfl rfl ?_
  refine e_P (st' := [aI ((3 * x2) + 1), aR 192]) (show decode (mC 252) 23 = .ok (.iadd, 1) by decide +kernel) rfl rfl rfl ?_
  refine e_L (L' := [some (aR 188), some (aI v1), some (aI v2), some (aI v3)]) (st' := [aI v2, aI ((3 * x2) + 1), aR 192]) (show decode (mC 252) 24 = .ok (.iload_n 2, 1) by decide +kernel) rfl rfl ?_
  refine e_iast (n := 135) (show decode (mC 252) 25 = .ok (.iastore, 1) by decide +kernel) (sh_ok hG (by decide +kernel)) (sh_ln hG (by decide +kernel)) (by decide) s4 s5 ?_
  refine e_L (L' := [some (aR 188), some (aI v1), some (aI v2), some (aI v3)]) (st' := [aR 188]) (show decode (mC 252) 26 = .ok (.aload_n 0, 1) by decide +kernel) rfl (by show (if 188 = 0 then none else some (_, _)) = _; rw [if_neg (by decide)]) ?_
  refine e_getR (w := 192) (show decode (mC 252) 27 = .ok (.getfield 40, 3) by decide +kernel) (show pl 12 40 = some (0, 12, 8, 0) by decide +kernel) (by decide) (sh_ok hG (by decide +kernel)) (sh_rf hG (by decide +kernel)) ?_
  refine e_P (st' := [aI 3, aR 192]) (show decode (mC 252) 30 = .ok (.iconst 3, 1) by decide +kernel) rfl rfl rfl ?_
  refine e_L (L' := [some (aR 188), some (aI v1), some (aI v2), some (aI v3)]) (st' := [aR 188, aI 3, aR 192]) (show decode (mC 252) 31 = .ok (.aload_n 0, 1) by decide +kernel) rfl (by show (if 188 = 0 then none else some (_, _)) = _; rw [if_neg (by decide)]) ?_
  refine e_getIx (show decode (mC 252) 32 = .ok (.getfield 378, 3) by decide +kernel) (show pl 12 378 = some (0, 12, 40, 0) by decide +kernel) (by decide) (sh_ok hG (by decide +kernel)) ex3 ?_
  refine e_P (st' := [aI (3 * x3), aR 192]) (show decode (mC 252) 35 = .ok (.imul, 1) by decide +kernel) rfl rfl rfl ?_
  refine e_P (st' := [aI 2, aI (3 * x3), aR 192]) (show decode (mC 252) 36 = .ok (.iconst 2, 1) by decide +kernel) rfl rfl rfl ?_
  refine e_P (st' := [aI ((3 * x3) + 2), aR 192]) (show decode (mC 252) 37 = .ok (.iadd, 1) by decide +kernel) rfl rfl rfl ?_
  refine e_L (L' := [some (aR 188), some (aI v1), some (aI v2), some (aI v3)]) (st' := [aI v3, aI ((3 * x3) + 2), aR 192]) (show decode (mC 252) 38 = .ok (.iload_n 3, 1) by decide +kernel) rfl rfl ?_
  refine e_iast (n := 135) (show decode (mC 252) 39 = .ok (.iastore, 1) by decide +kernel) (sh_ok hG (by decide +kernel)) (sh_ln hG (by decide +kernel)) (by decide) s7 s8 ?_
  refine e_L (L' := [some (aR 188), some (aI v1), some (aI v2), some (aI v3)]) (st' := [aR 188]) (show decode (mC 252) 40 = .ok (.aload_n 0, 1) by decide +kernel) rfl (by show (if 188 = 0 then none else some (_, _)) = _; rw [if_neg (by decide)]) ?_
  refine e_P (st' := [aR 188, aR 188]) (show decode (mC 252) 41 = .ok (.dup, 1) by decide +kernel) rfl rfl rfl ?_
  refine e_getIx (show decode (mC 252) 42 = .ok (.getfield 378, 3) by decide +kernel) (show pl 12 378 = some (0, 12, 40, 0) by decide +kernel) (by decide) (sh_ok hG (by decide +kernel)) ex4 ?_
  refine e_P (st' := [aI 1, aI x4, aR 188]) (show decode (mC 252) 45 = .ok (.iconst 1, 1) by decide +kernel) rfl rfl rfl ?_
  refine e_P (st' := [aI (x4 + 1), aR 188]) (show decode (mC 252) 46 = .ok (.iadd, 1) by decide +kernel) rfl rfl rfl ?_
  refine e_putI (show decode (mC 252) 47 = .ok (.putfield 378, 3) by decide +kernel) (show pl 12 378 = some (0, 12, 40, 0) by decide +kernel) (by decide) (sh_ok hG (by decide +kernel)) ?_
  exact e_vret (show decode (mC 252) 50 = .ok (.return_, 1) by decide +kernel) rfl z10
/-- SoulOfficeModel.joins(I)V, from 0 -/
theorem b253_0 (hG : Shp G) {v1 x1 x2 x3 x4 x5 x6 x7 x8 x9 x10 x11 : Int}
    (ex1 : c 188 42 = x1)
    (s1 : -2147483648 ≤ x1 ∧ x1 < 2147483648)
    (z2 : (x1 ≤ 0) → Q (.inl none) (G, c))
    (ex2 : c 188 42 = x2)
    (s4 : (0 < x1) → 0 ≤ (x2 - 1))
    (s5 : (0 < x1) → (x2 - 1) < 45)
    (ex3 : c 206 (x2 - 1) = x3)
    (s7 : (0 < x1) → -2147483648 ≤ x3 ∧ x3 < 2147483648)
    (ex4 : c 188 42 = x4)
    (ex5 : (q_up c 188 42 (x4 - 1)) 188 42 = x5)
    (s10 : (0 < x1) → (x3 = 21) → 0 ≤ x5)
    (s11 : (0 < x1) → (x3 = 21) → x5 < 45)
    (ex6 : (q_up c 188 42 (x4 - 1)) 206 x5 = x6)
    (m13 : (0 < x1) → (x3 = 21) → TM d 252 [aR 188, aI x6, aI 0, aI 0] (G, (q_up c 188 42 (x4 - 1))) (fun r h' => T (d + 1) 253 70 [some (aR 188), some (aI v1)] (r.toList ++ []) h' Q))
    (ex7 : c 188 42 = x7)
    (s15 : (0 < x1) → (¬ x3 = 21) → 0 ≤ (x7 - 1))
    (s16 : (0 < x1) → (¬ x3 = 21) → (x7 - 1) < 45)
    (ex8 : c 206 (x7 - 1) = x8)
    (s18 : (0 < x1) → (¬ x3 = 21) → -2147483648 ≤ x8 ∧ x8 < 2147483648)
    (z19 : (0 < x1) → (¬ x3 = 21) → (¬ x8 = 22) → Q (.inl none) (G, c))
    (s20 : (0 < x1) → (¬ x3 = 21) → (x8 = 22) → -2147483648 ≤ v1 ∧ v1 < 2147483648)
    (z21 : (0 < x1) → (¬ x3 = 21) → (x8 = 22) → (¬ v1 = 22) → Q (.inl none) (G, c))
    (ex9 : c 188 42 = x9)
    (ex10 : (q_up c 188 42 (x9 - 1)) 188 42 = x10)
    (s24 : (0 < x1) → (¬ x3 = 21) → (x8 = 22) → (v1 = 22) → 0 ≤ x10)
    (s25 : (0 < x1) → (¬ x3 = 21) → (x8 = 22) → (v1 = 22) → x10 < 45)
    (ex11 : (q_up c 188 42 (x9 - 1)) 206 x10 = x11)
    (m27 : (0 < x1) → (¬ x3 = 21) → (x8 = 22) → (v1 = 22) → TM d 252 [aR 188, aI x11, aI 0, aI 0] (G, (q_up c 188 42 (x9 - 1))) (fun r h' => T (d + 1) 253 70 [some (aR 188), some (aI v1)] (r.toList ++ []) h' Q)) :
    T (d + 1) 253 0 [some (aR 188), some (aI v1)] [] (G, c) Q := by
  refine e_L (L' := [some (aR 188), some (aI v1)]) (st' := [aR 188]) (show decode (mC 253) 0 = .ok (.aload_n 0, 1) by decide +kernel) rfl (by show (if 188 = 0 then none else some (_, _)) = _; rw [if_neg (by decide)]) ?_
  refine e_getIx (show decode (mC 253) 1 = .ok (.getfield 381, 3) by decide +kernel) (show pl 12 381 = some (0, 12, 42, 0) by decide +kernel) (by decide) (sh_ok hG (by decide +kernel)) ex1 ?_
  refine e_le1 (t := 73) (show decode (mC 253) 4 = .ok (.ifCond .le 69, 3) by decide +kernel) (by decide) s1 (fun p1 => ?_) (fun p1 => ?_)
  · exact e_vret (show decode (mC 253) 73 = .ok (.return_, 1) by decide +kernel) rfl (z2 p1)
  · refine e_L (L' := [some (aR 188), some (aI v1)]) (st' := [aR 188]) (show decode (mC 253) 7 = .ok (.aload_n 0, 1) by decide +kernel) rfl (by show (if 188 = 0 then none else some (_, _)) = _; rw [if_neg (by decide)]) ?_
    refine e_getR (w := 206) (show decode (mC 253) 8 = .ok (.getfield 86, 3) by decide +kernel) (show pl 12 86 = some (0, 12, 39, 0) by decide +kernel) (by decide) (sh_ok hG (by decide +kernel)) (sh_rf hG (by decide +kernel)) ?_
    refine e_L (L' := [some (aR 188), some (aI v1)]) (st' := [aR 188, aR 206]) (show decode (mC 253) 11 = .ok (.aload_n 0, 1) by decide +kernel) rfl (by show (if 188 = 0 then none else some (_, _)) = _; rw [if_neg (by decide)]) ?_
    refine e_getIx (show decode (mC 253) 12 = .ok (.getfield 381, 3) by decide +kernel) (show pl 12 381 = some (0, 12, 42, 0) by decide +kernel) (by decide) (sh_ok hG (by decide +kernel)) ex2 ?_
    refine e_P (st' := [aI 1, aI x2, aR 206]) (show decode (mC 253) 15 = .ok (.iconst 1, 1) by decide +kernel) rfl rfl rfl ?_
    refine e_P (st' := [aI (x2 - 1), aR 206]) (show decode (mC 253) 16 = .ok (.isub, 1) by decide +kernel) rfl rfl rfl ?_
    refine e_ialdx (n := 45) (show decode (mC 253) 17 = .ok (.iaload, 1) by decide +kernel) (sh_ok hG (by decide +kernel)) (sh_ln hG (by decide +kernel)) (by decide) (s4 p1) (s5 p1) ex3 ?_
    refine e_P (st' := [aI 21, aI x3]) (show decode (mC 253) 18 = .ok (.bipush 21, 2) by decide +kernel) rfl rfl rfl ?_
    refine e_eq2 (t := 45) (show decode (mC 253) 20 = .ok (.if_icmp .eq 25, 3) by decide +kernel) (by decide) (s7 p1) (by decide) (fun p2 => ?_) (fun p2 => ?_)
    · refine e_L (L' := [some (aR 188), some (aI v1)]) (st' := [aR 188]) (show decode (mC 253) 45 = .ok (.aload_n 0, 1) by decide +kernel) rfl (by show (if 188 = 0 then none else some (_, _)) = _; rw [if_neg (by decide)]) ?_
      refine e_P (st' := [aR 188, aR 188]) (show decode (mC 253) 46 = .ok (.dup, 1) by decide +kernel) rfl rfl rfl ?_
      refine e_getIx (show decode (mC 253) 47 = .ok (.getfield 381, 3) by decide +kernel) (show pl 12 381 = some (0, 12, 42, 0) by decide +kernel) (by decide) (sh_ok hG (by decide +kernel)) ex4 ?_
      refine e_P (st' := [aI 1, aI x4, aR 188]) (show decode (mC 253) 50 = .ok (.iconst 1, 1) by decide +kernel) rfl rfl rfl ?_
      refine e_P (st' := [aI (x4 - 1), aR 188]) (show decode (mC 253) 51 = .ok (.isub, 1) by decide +kernel) rfl rfl rfl ?_
      refine e_putI (show decode (mC 253) 52 = .ok (.putfield 381, 3) by decide +kernel) (show pl 12 381 = some (0, 12, 42, 0) by decide +kernel) (by decide) (sh_ok hG (by decide +kernel)) ?_
      refine e_L (L' := [some (aR 188), some (aI v1)]) (st' := [aR 188]) (show decode (mC 253) 55 = .ok (.aload_n 0, 1) by decide +kernel) rfl (by show (if 188 = 0 then none else some (_, _)) = _; rw [if_neg (by decide)]) ?_
      refine e_L (L' := [some (aR 188), some (aI v1)]) (st' := [aR 188, aR 188]) (show decode (mC 253) 56 = .ok (.aload_n 0, 1) by decide +kernel) rfl (by show (if 188 = 0 then none else some (_, _)) = _; rw [if_neg (by decide)]) ?_
      refine e_getR (w := 206) (show decode (mC 253) 57 = .ok (.getfield 86, 3) by decide +kernel) (show pl 12 86 = some (0, 12, 39, 0) by decide +kernel) (by decide) (sh_ok hG (by decide +kernel)) (sh_rf hG (by decide +kernel)) ?_
      refine e_L (L' := [some (aR 188), some (aI v1)]) (st' := [aR 188, aR 206, aR 188]) (show decode (mC 253) 60 = .ok (.aload_n 0, 1) by decide +kernel) rfl (by show (if 188 = 0 then none else some (_, _)) = _; rw [if_neg (by decide)]) ?_
      refine e_getIx (show decode (mC 253) 61 = .ok (.getfield 381, 3) by decide +kernel) (show pl 12 381 = some (0, 12, 42, 0) by decide +kernel) (by decide) (sh_ok hG (by decide +kernel)) ex5 ?_
      refine e_ialdx (n := 45) (show decode (mC 253) 64 = .ok (.iaload, 1) by decide +kernel) (sh_ok hG (by decide +kernel)) (sh_ln hG (by decide +kernel)) (by decide) (s10 p1 p2) (s11 p1 p2) ex6 ?_
      refine e_P (st' := [aI 0, aI x6, aR 188]) (show decode (mC 253) 65 = .ok (.iconst 0, 1) by decide +kernel) rfl rfl rfl ?_
      refine e_P (st' := [aI 0, aI 0, aI x6, aR 188]) (show decode (mC 253) 66 = .ok (.iconst 0, 1) by decide +kernel) rfl rfl rfl ?_
      exact e_V (as := [aR 188, aI x6, aI 0, aI 0]) (rest := []) (show decode (mC 253) 67 = .ok (.invokevirtual 384, 3) by decide +kernel) (by decide +kernel) (show (decide ((4 : Nat) = mA 252) && decide (252 < q_law)) = true by decide +kernel) rfl (show (0 : Nat) ≤ 8 by decide) (show (4 : Nat) ≤ mL 252 by decide +kernel) rfl (sh_ok hG (by decide +kernel)) (m13 p1 p2)
    · refine e_L (L' := [some (aR 188), some (aI v1)]) (st' := [aR 188]) (show decode (mC 253) 23 = .ok (.aload_n 0, 1) by decide +kernel) rfl (by show (if 188 = 0 then none else some (_, _)) = _; rw [if_neg (by decide)]) ?_
      refine e_getR (w := 206) (show decode (mC 253) 24 = .ok (.getfield 86, 3) by decide +kernel) (show pl 12 86 = some (0, 12, 39, 0) by decide +kernel) (by decide) (sh_ok hG (by decide +kernel)) (sh_rf hG (by decide +kernel)) ?_
      refine e_L (L' := [some (aR 188), some (aI v1)]) (st' := [aR 188, aR 206]) (show decode (mC 253) 27 = .ok (.aload_n 0, 1) by decide +kernel) rfl (by show (if 188 = 0 then none else some (_, _)) = _; rw [if_neg (by decide)]) ?_
      refine e_getIx (show decode (mC 253) 28 = .ok (.getfield 381, 3) by decide +kernel) (show pl 12 381 = some (0, 12, 42, 0) by decide +kernel) (by decide) (sh_ok hG (by decide +kernel)) ex7 ?_
      refine e_P (st' := [aI 1, aI x7, aR 206]) (show decode (mC 253) 31 = .ok (.iconst 1, 1) by decide +kernel) rfl rfl rfl ?_
      refine e_P (st' := [aI (x7 - 1), aR 206]) (show decode (mC 253) 32 = .ok (.isub, 1) by decide +kernel) rfl rfl rfl ?_
      refine e_ialdx (n := 45) (show decode (mC 253) 33 = .ok (.iaload, 1) by decide +kernel) (sh_ok hG (by decide +kernel)) (sh_ln hG (by decide +kernel)) (by decide) (s15 p1 p2) (s16 p1 p2) ex8 ?_
      refine e_P (st' := [aI 22, aI x8]) (show decode (mC 253) 34 = .ok (.bipush 22, 2) by decide +kernel) rfl rfl rfl ?_
      refine e_ne2 (t := 73) (show decode (mC 253) 36 = .ok (.if_icmp .ne 37, 3) by decide +kernel) (by decide) (s18 p1 p2) (by decide) (fun p3 => ?_) (fun p3 => ?_)
      · exact e_vret (show decode (mC 253) 73 = .ok (.return_, 1) by decide +kernel) rfl (z19 p1 p2 p3)
      · refine e_L (L' := [some (aR 188), some (aI v1)]) (st' := [aI v1]) (show decode (mC 253) 39 = .ok (.iload_n 1, 1) by decide +kernel) rfl rfl ?_
        refine e_P (st' := [aI 22, aI v1]) (show decode (mC 253) 40 = .ok (.bipush 22, 2) by decide +kernel) rfl rfl rfl ?_
        refine e_ne2 (t := 73) (show decode (mC 253) 42 = .ok (.if_icmp .ne 31, 3) by decide +kernel) (by decide) (s20 p1 p2 p3) (by decide) (fun p4 => ?_) (fun p4 => ?_)
        · exact e_vret (show decode (mC 253) 73 = .ok (.return_, 1) by decide +kernel) rfl (z21 p1 p2 p3 p4)
        · refine e_L (L' := [some (aR 188), some (aI v1)]) (st' := [aR 188]) (show decode (mC 253) 45 = .ok (.aload_n 0, 1) by decide +kernel) rfl (by show (if 188 = 0 then none else some (_, _)) = _; rw [if_neg (by decide)]) ?_
          refine e_P (st' := [aR 188, aR 188]) (show decode (mC 253) 46 = .ok (.dup, 1) by decide +kernel) rfl rfl rfl ?_
          refine e_getIx (show decode (mC 253) 47 = .ok (.getfield 381, 3) by decide +kernel) (show pl 12 381 = some (0, 12, 42, 0) by decide +kernel) (by decide) (sh_ok hG (by decide +kernel)) ex9 ?_
          refine e_P (st' := [aI 1, aI x9, aR 188]) (show decode (mC 253) 50 = .ok (.iconst 1, 1) by decide +kernel) rfl rfl rfl ?_
          refine e_P (st' := [aI (x9 - 1), aR 188]) (show decode (mC 253) 51 = .ok (.isub, 1) by decide +kernel) rfl rfl rfl ?_
          refine e_putI (show decode (mC 253) 52 = .ok (.putfield 381, 3) by decide +kernel) (show pl 12 381 = some (0, 12, 42, 0) by decide +kernel) (by decide) (sh_ok hG (by decide +kernel)) ?_
          refine e_L (L' := [some (aR 188), some (aI v1)]) (st' := [aR 188]) (show decode (mC 253) 55 = .ok (.aload_n 0, 1) by decide +kernel) rfl (by show (if 188 = 0 then none else some (_, _)) = _; rw [if_neg (by decide)]) ?_
          refine e_L (L' := [some (aR 188), some (aI v1)]) (st' := [aR 188, aR 188]) (show decode (mC 253) 56 = .ok (.aload_n 0, 1) by decide +kernel) rfl (by show (if 188 = 0 then none else some (_, _)) = _; rw [if_neg (by decide)]) ?_
          refine e_getR (w := 206) (show decode (mC 253) 57 = .ok (.getfield 86, 3) by decide +kernel) (show pl 12 86 = some (0, 12, 39, 0) by decide +kernel) (by decide) (sh_ok hG (by decide +kernel)) (sh_rf hG (by decide +kernel)) ?_
          refine e_L (L' := [some (aR 188), some (aI v1)]) (st' := [aR 188, aR 206, aR 188]) (show decode (mC 253) 60 = .ok (.aload_n 0, 1) by decide +kernel) rfl (by show (if 188 = 0 then none else some (_, _)) = _; rw [if_neg (by decide)]) ?_
          refine e_getIx (show decode (mC 253) 61 = .ok (.getfield 381, 3) by decide +kernel) (show pl 12 381 = some (0, 12, 42, 0) by decide +kernel) (by decide) (sh_ok hG (by decide +kernel)) ex10 ?_
          refine e_ialdx (n := 45) (show decode (mC 253) 64 = .ok (.iaload, 1) by decide +kernel) (sh_ok hG (by decide +kernel)) (sh_ln hG (by decide +kernel)) (by decide) (s24 p1 p2 p3 p4) (s25 p1 p2 p3 p4) ex11 ?_
          refine e_P (st' := [aI 0, aI x11, aR 188]) (show decode (mC 253) 65 = .ok (.iconst 0, 1) by decide +kernel) rfl rfl rfl ?_
          refine e_P (st' := [aI 0, aI 0, aI x11, aR 188]) (show decode (mC 253) 66 = .ok (.iconst 0, 1) by decide +kernel) rfl rfl rfl ?_
          exact e_V (as := [aR 188, aI x11, aI 0, aI 0]) (rest := []) (show decode (mC 253) 67 = .ok (.invokevirtual 384, 3) by decide +kernel) (by decide +kernel) (show (decide ((4 : Nat) = mA 252) && decide (252 < q_law)) = true by decide +kernel) rfl (show (0 : Nat) ≤ 8 by decide) (show (4 : Nat) ≤ mL 252 by decide +kernel) rfl (sh_ok hG (by decide +kernel)) (m27 p1 p2 p3 p4)
/-- SoulOfficeModel.joins(I)V, from 70 -/
theorem b253_70 (hG : Shp G) {v1 : Int}
    (k0 : T (d + 1) 253 0 [some (aR 188), some (aI v1)] [] (G, c) Q) :
    T (d + 1) 253 70 [some (aR 188), some (aI v1)] [] (G, c) Q := by
  refine e_go (t := 0) (show decode (mC 253) 70 = .ok (.goto (-70), 3) by decide +kernel) (by decide) ?_
  exact k0
/-- SoulOfficeModel.nots()V, from 0 -/
theorem b254_0 (hG : Shp G) {x1 x2 x3 x4 x5 : Int}
    (ex1 : c 188 42 = x1)
    (s1 : -2147483648 ≤ x1 ∧ x1 < 2147483648)
    (z2 : (x1 ≤ 0) → Q (.inl none) (G, c))
    (ex2 : c 188 42 = x2)
    (s4 : (0 < x1) → 0 ≤ (x2 - 1))
    (s5 : (0 < x1) → (x2 - 1) < 45)
    (ex3 : c 206 (x2 - 1) = x3)
    (s7 : (0 < x1) → -2147483648 ≤ x3 ∧ x3 < 2147483648)
    (z8 : (0 < x1) → (¬ x3 = 20) → Q (.inl none) (G, c))
    (ex4 : c 188 42 = x4)
    (ex5 : (q_up c 188 42 (x4 - 1)) 188 43 = x5)
    (m11 : (0 < x1) → (x3 = 20) → TM d 252 [aR 188, aI 20, aI 0, aI 0] (G, (q_up (q_up c 188 42 (x4 - 1)) 188 43 (x5 - 1))) (fun r h' => T (d + 1) 254 51 [some (aR 188)] (r.toList ++ []) h' Q)) :
    T (d + 1) 254 0 [some (aR 188)] [] (G, c) Q := by
  refine e_L (L' := [some (aR 188)]) (st' := [aR 188]) (show decode (mC 254) 0 = .ok (.aload_n 0, 1) by decide +kernel) rfl (by show (if 188 = 0 then none else some (_, _)) = _; rw [if_neg (by decide)]) ?_
  refine e_getIx (show decode (mC 254) 1 = .ok (.getfield 381, 3) by decide +kernel) (show pl 12 381 = some (0, 12, 42, 0) by decide +kernel) (by decide) (sh_ok hG (by decide +kernel)) ex1 ?_
  refine e_le1 (t := 54) (show decode (mC 254) 4 = .ok (.ifCond .le 50, 3) by decide +kernel) (by decide) s1 (fun p1 => ?_) (fun p1 => ?_)
  · exact e_vret (show decode (mC 254) 54 = .ok (.return_, 1) by decide +kernel) rfl (z2 p1)
  · refine e_L (L' := [some (aR 188)]) (st' := [aR 188]) (show decode (mC 254) 7 = .ok (.aload_n 0, 1) by decide +kernel) rfl (by show (if 188 = 0 then none else some (_, _)) = _; rw [if_neg (by decide)]) ?_
    refine e_getR (w := 206) (show decode (mC 254) 8 = .ok (.getfield 86, 3) by decide +kernel) (show pl 12 86 = some (0, 12, 39, 0) by decide +kernel) (by decide) (sh_ok hG (by decide +kernel)) (sh_rf hG (by decide +kernel)) ?_
    refine e_L (L' := [some (aR 188)]) (st' := [aR 188, aR 206]) (show decode (mC 254) 11 = .ok (.aload_n 0, 1) by decide +kernel) rfl (by show (if 188 = 0 then none else some (_, _)) = _; rw [if_neg (by decide)]) ?_
    refine e_getIx (show decode (mC 254) 12 = .ok (.getfield 381, 3) by decide +kernel) (show pl 12 381 = some (0, 12, 42, 0) by decide +kernel) (by decide) (sh_ok hG (by decide +kernel)) ex2 ?_
    refine e_P (st' := [aI 1, aI x2, aR 206]) (show decode (mC 254) 15 = .ok (.iconst 1, 1) by decide +kernel) rfl rfl rfl ?_
    refine e_P (st' := [aI (x2 - 1), aR 206]) (show decode (mC 254) 16 = .ok (.isub, 1) by decide +kernel) rfl rfl rfl ?_
    refine e_ialdx (n := 45) (show decode (mC 254) 17 = .ok (.iaload, 1) by decide +kernel) (sh_ok hG (by decide +kernel)) (sh_ln hG (by decide +kernel)) (by decide) (s4 p1) (s5 p1) ex3 ?_
    refine e_P (st' := [aI 20, aI x3]) (show decode (mC 254) 18 = .ok (.bipush 20, 2) by decide +kernel) rfl rfl rfl ?_
    refine e_ne2 (t := 54) (show decode (mC 254) 20 = .ok (.if_icmp .ne 34, 3) by decide +kernel) (by decide) (s7 p1) (by decide) (fun p2 => ?_) (fun p2 => ?_)
    · exact e_vret (show decode (mC 254) 54 = .ok (.return_, 1) by decide +kernel) rfl (z8 p1 p2)
    · refine e_L (L' := [some (aR 188)]) (st' := [aR 188]) (show decode (mC 254) 23 = .ok (.aload_n 0, 1) by decide +kernel) rfl (by show (if 188 = 0 then none else some (_, _)) = _; rw [if_neg (by decide)]) ?_
      refine e_P (st' := [aR 188, aR 188]) (show decode (mC 254) 24 = .ok (.dup, 1) by decide +kernel) rfl rfl rfl ?_
      refine e_getIx (show decode (mC 254) 25 = .ok (.getfield 381, 3) by decide +kernel) (show pl 12 381 = some (0, 12, 42, 0) by decide +kernel) (by decide) (sh_ok hG (by decide +kernel)) ex4 ?_
      refine e_P (st' := [aI 1, aI x4, aR 188]) (show decode (mC 254) 28 = .ok (.iconst 1, 1) by decide +kernel) rfl rfl rfl ?_
      refine e_P (st' := [aI (x4 - 1), aR 188]) (show decode (mC 254) 29 = .ok (.isub, 1) by decide +kernel) rfl rfl rfl ?_
      refine e_putI (show decode (mC 254) 30 = .ok (.putfield 381, 3) by decide +kernel) (show pl 12 381 = some (0, 12, 42, 0) by decide +kernel) (by decide) (sh_ok hG (by decide +kernel)) ?_
      refine e_L (L' := [some (aR 188)]) (st' := [aR 188]) (show decode (mC 254) 33 = .ok (.aload_n 0, 1) by decide +kernel) rfl (by show (if 188 = 0 then none else some (_, _)) = _; rw [if_neg (by decide)]) ?_
      refine e_P (st' := [aR 188, aR 188]) (show decode (mC 254) 34 = .ok (.dup, 1) by decide +kernel) rfl rfl rfl ?_
      refine e_getIx (show decode (mC 254) 35 = .ok (.getfield 388, 3) by decide +kernel) (show pl 12 388 = some (0, 12, 43, 0) by decide +kernel) (by decide) (sh_ok hG (by decide +kernel)) ex5 ?_
      refine e_P (st' := [aI 1, aI x5, aR 188]) (show decode (mC 254) 38 = .ok (.iconst 1, 1) by decide +kernel) rfl rfl rfl ?_
      refine e_P (st' := [aI (x5 - 1), aR 188]) (show decode (mC 254) 39 = .ok (.isub, 1) by decide +kernel) rfl rfl rfl ?_
      refine e_putI (show decode (mC 254) 40 = .ok (.putfield 388, 3) by decide +kernel) (show pl 12 388 = some (0, 12, 43, 0) by decide +kernel) (by decide) (sh_ok hG (by decide +kernel)) ?_
      refine e_L (L' := [some (aR 188)]) (st' := [aR 188]) (show decode (mC 254) 43 = .ok (.aload_n 0, 1) by decide +kernel) rfl (by show (if 188 = 0 then none else some (_, _)) = _; rw [if_neg (by decide)]) ?_
      refine e_P (st' := [aI 20, aR 188]) (show decode (mC 254) 44 = .ok (.bipush 20, 2) by decide +kernel) rfl rfl rfl ?_
      refine e_P (st' := [aI 0, aI 20, aR 188]) (show decode (mC 254) 46 = .ok (.iconst 0, 1) by decide +kernel) rfl rfl rfl ?_
      refine e_P (st' := [aI 0, aI 0, aI 20, aR 188]) (show decode (mC 254) 47 = .ok (.iconst 0, 1) by decide +kernel) rfl rfl rfl ?_
      exact e_V (as := [aR 188, aI 20, aI 0, aI 0]) (rest := []) (show decode (mC 254) 48 = .ok (.invokevirtual 384, 3) by decide +kernel) (by decide +kernel) (show (decide ((4 : Nat) = mA 252) && decide (252 < q_law)) = true by decide +kernel) rfl (show (0 : Nat) ≤ 8 by decide) (show (4 : Nat) ≤ mL 252 by decide +kernel) rfl (sh_ok hG (by decide +kernel)) (m11 p1 p2)
/-- SoulOfficeModel.nots()V, from 51 -/
theorem b254_51 (hG : Shp G)
    (k0 : T (d + 1) 254 0 [some (aR 188)] [] (G, c) Q) :
    T (d + 1) 254 51 [some (aR 188)] [] (G, c) Q := by
  refine e_go (t := 0) (show decode (mC 254) 51 = .ok (.goto (-51), 3) by decide +kernel) (by decide) ?_
  exact k0
/-- SoulOfficeModel.leafOf()I, from 0 -/
theorem b255_0 (hG : Shp G)
    (m0 : TM d 174 [aR 188, aL 512735409267] (G, c) (fun r h' => T (d + 1) 255 7 [some (aR 188)] (r.toList ++ []) h' Q)) :
    T (d + 1) 255 0 [some (aR 188)] [] (G, c) Q := by
  refine e_L (L' := [some (aR 188)]) (st' := [aR 188]) (show decode (mC 255) 0 = .ok (.aload_n 0, 1) by decide +kernel) rfl (by show (if 188 = 0 then none else some (_, _)) = _; rw [if_neg (by decide)]) ?_
  refine e_ldc2 (show decode (mC 255) 1 = .ok (.ldc2_w 128, 3) by decide +kernel) (show pl 12 128 = some (9, 0, 0, 512735409267) by decide +kernel) ?_
  exact e_V (as := [aR 188, aL 512735409267]) (rest := []) (show decode (mC 255) 4 = .ok (.invokevirtual 203, 3) by decide +kernel) (by decide +kernel) (show (decide ((2 : Nat) = mA 174) && decide (174 < q_law)) = true by decide +kernel) rfl (show (0 : Nat) ≤ 8 by decide) (show (3 : Nat) ≤ mL 174 by decide +kernel) rfl (sh_ok hG (by decide +kernel)) m0
/-- SoulOfficeModel.leafOf()I, from 7 -/
theorem b255_7 (hG : Shp G) {u0 : Int}
    (s0 : -2147483648 ≤ u0 ∧ u0 < 2147483648)
    (m1 : (u0 = 0) → TM d 174 [aR 188, aL 24947] (G, c) (fun r h' => T (d + 1) 255 21 [some (aR 188)] (r.toList ++ []) h' Q))
    (z2 : (¬ u0 = 0) → Q (.inl (some (aI 0))) (G, c)) :
    T (d + 1) 255 7 [some (aR 188)] [aI u0] (G, c) Q := by
  refine e_eq1 (t := 14) (show decode (mC 255) 7 = .ok (.ifCond .eq 7, 3) by decide +kernel) (by decide) s0 (fun p1 => ?_) (fun p1 => ?_)
  · refine e_L (L' := [some (aR 188)]) (st' := [aR 188]) (show decode (mC 255) 14 = .ok (.aload_n 0, 1) by decide +kernel) rfl (by show (if 188 = 0 then none else some (_, _)) = _; rw [if_neg (by decide)]) ?_
    refine e_ldc2 (show decode (mC 255) 15 = .ok (.ldc2_w 116, 3) by decide +kernel) (show pl 12 116 = some (9, 0, 0, 24947) by decide +kernel) ?_
    exact e_V (as := [aR 188, aL 24947]) (rest := []) (show decode (mC 255) 18 = .ok (.invokevirtual 203, 3) by decide +kernel) (by decide +kernel) (show (decide ((2 : Nat) = mA 174) && decide (174 < q_law)) = true by decide +kernel) rfl (show (0 : Nat) ≤ 8 by decide) (show (3 : Nat) ≤ mL 174 by decide +kernel) rfl (sh_ok hG (by decide +kernel)) (m1 p1)
  · refine e_P (st' := [aI 0]) (show decode (mC 255) 10 = .ok (.iconst 0, 1) by decide +kernel) rfl rfl rfl ?_
    refine e_go (t := 115) (show decode (mC 255) 11 = .ok (.goto 104, 3) by decide +kernel) (by decide) ?_
    exact e_iret (show decode (mC 255) 115 = .ok (.ireturn, 1) by decide +kernel) rfl (z2 p1)
/-- SoulOfficeModel.leafOf()I, from 21 -/
theorem b255_21 (hG : Shp G) {u0 : Int}
    (s0 : -2147483648 ≤ u0 ∧ u0 < 2147483648)
    (m1 : (u0 = 0) → TM d 174 [aR 188, aL 1870095731] (G, c) (fun r h' => T (d + 1) 255 35 [some (aR 188)] (r.toList ++ []) h' Q))
    (z2 : (¬ u0 = 0) → Q (.inl (some (aI 1))) (G, c)) :
    T (d + 1) 255 21 [some (aR 188)] [aI u0] (G, c) Q := by
  refine e_eq1 (t := 28) (show decode (mC 255) 21 = .ok (.ifCond .eq 7, 3) by decide +kernel) (by decide) s0 (fun p1 => ?_) (fun p1 => ?_)
  · refine e_L (L' := [some (aR 188)]) (st' := [aR 188]) (show decode (mC 255) 28 = .ok (.aload_n 0, 1) by decide +kernel) rfl (by show (if 188 = 0 then none else some (_, _)) = _; rw [if_neg (by decide)]) ?_
    refine e_ldc2 (show decode (mC 255) 29 = .ok (.ldc2_w 130, 3) by decide +kernel) (show pl 12 130 = some (9, 0, 0, 1870095731) by decide +kernel) ?_
    exact e_V (as := [aR 188, aL 1870095731]) (rest := []) (show decode (mC 255) 32 = .ok (.invokevirtual 203, 3) by decide +kernel) (by decide +kernel) (show (decide ((2 : Nat) = mA 174) && decide (174 < q_law)) = true by decide +kernel) rfl (show (0 : Nat) ≤ 8 by decide) (show (3 : Nat) ≤ mL 174 by decide +kernel) rfl (sh_ok hG (by decide +kernel)) (m1 p1)
  · refine e_P (st' := [aI 1]) (show decode (mC 255) 24 = .ok (.iconst 1, 1) by decide +kernel) rfl rfl rfl ?_
    refine e_go (t := 115) (show decode (mC 255) 25 = .ok (.goto 90, 3) by decide +kernel) (by decide) ?_
    exact e_iret (show decode (mC 255) 115 = .ok (.ireturn, 1) by decide +kernel) rfl (z2 p1)
/-- SoulOfficeModel.leafOf()I, from 35 -/
theorem b255_35 (hG : Shp G) {u0 : Int}
    (s0 : -2147483648 ≤ u0 ∧ u0 < 2147483648)
    (m1 : (u0 = 0) → TM d 174 [aR 188, aL 431197680755] (G, c) (fun r h' => T (d + 1) 255 49 [some (aR 188)] (r.toList ++ []) h' Q))
    (z2 : (¬ u0 = 0) → Q (.inl (some (aI 2))) (G, c)) :
    T (d + 1) 255 35 [some (aR 188)] [aI u0] (G, c) Q := by
  refine e_eq1 (t := 42) (show decode (mC 255) 35 = .ok (.ifCond .eq 7, 3) by decide +kernel) (by decide) s0 (fun p1 => ?_) (fun p1 => ?_)
  · refine e_L (L' := [some (aR 188)]) (st' := [aR 188]) (show decode (mC 255) 42 = .ok (.aload_n 0, 1) by decide +kernel) rfl (by show (if 188 = 0 then none else some (_, _)) = _; rw [if_neg (by decide)]) ?_
    refine e_ldc2 (show decode (mC 255) 43 = .ok (.ldc2_w 132, 3) by decide +kernel) (show pl 12 132 = some (9, 0, 0, 431197680755) by decide +kernel) ?_
    exact e_V (as := [aR 188, aL 431197680755]) (rest := []) (show decode (mC 255) 46 = .ok (.invokevirtual 203, 3) by decide +kernel) (by decide +kernel) (show (decide ((2 : Nat) = mA 174) && decide (174 < q_law)) = true by decide +kernel) rfl (show (0 : Nat) ≤ 8 by decide) (show (3 : Nat) ≤ mL 174 by decide +kernel) rfl (sh_ok hG (by decide +kernel)) (m1 p1)
  · refine e_P (st' := [aI 2]) (show decode (mC 255) 38 = .ok (.iconst 2, 1) by decide +kernel) rfl rfl rfl ?_
    refine e_go (t := 115) (show decode (mC 255) 39 = .ok (.goto 76, 3) by decide +kernel) (by decide) ?_
    exact e_iret (show decode (mC 255) 115 = .ok (.ireturn, 1) by decide +kernel) rfl (z2 p1)
/-- SoulOfficeModel.leafOf()I, from 49 -/
theorem b255_49 (hG : Shp G) {u0 : Int}
    (s0 : -2147483648 ≤ u0 ∧ u0 < 2147483648)
    (m1 : (u0 = 0) → TM d 174 [aR 188, aL 1685415283] (G, c) (fun r h' => T (d + 1) 255 63 [some (aR 188)] (r.toList ++ []) h' Q))
    (z2 : (¬ u0 = 0) → Q (.inl (some (aI 3))) (G, c)) :
    T (d + 1) 255 49 [some (aR 188)] [aI u0] (G, c) Q := by
  refine e_eq1 (t := 56) (show decode (mC 255) 49 = .ok (.ifCond .eq 7, 3) by decide +kernel) (by decide) s0 (fun p1 => ?_) (fun p1 => ?_)
  · refine e_L (L' := [some (aR 188)]) (st' := [aR 188]) (show decode (mC 255) 56 = .ok (.aload_n 0, 1) by decide +kernel) rfl (by show (if 188 = 0 then none else some (_, _)) = _; rw [if_neg (by decide)]) ?_
    refine e_ldc2 (show decode (mC 255) 57 = .ok (.ldc2_w 134, 3) by decide +kernel) (show pl 12 134 = some (9, 0, 0, 1685415283) by decide +kernel) ?_
    exact e_V (as := [aR 188, aL 1685415283]) (rest := []) (show decode (mC 255) 60 = .ok (.invokevirtual 203, 3) by decide +kernel) (by decide +kernel) (show (decide ((2 : Nat) = mA 174) && decide (174 < q_law)) = true by decide +kernel) rfl (show (0 : Nat) ≤ 8 by decide) (show (3 : Nat) ≤ mL 174 by decide +kernel) rfl (sh_ok hG (by decide +kernel)) (m1 p1)
  · refine e_P (st' := [aI 3]) (show decode (mC 255) 52 = .ok (.iconst 3, 1) by decide +kernel) rfl rfl rfl ?_
    refine e_go (t := 115) (show decode (mC 255) 53 = .ok (.goto 62, 3) by decide +kernel) (by decide) ?_
    exact e_iret (show decode (mC 255) 115 = .ok (.ireturn, 1) by decide +kernel) rfl (z2 p1)
/-- SoulOfficeModel.leafOf()I, from 63 -/
theorem b255_63 (hG : Shp G) {u0 : Int}
    (s0 : -2147483648 ≤ u0 ∧ u0 < 2147483648)
    (m1 : (u0 = 0) → TM d 174 [aR 188, aL 108205031319667] (G, c) (fun r h' => T (d + 1) 255 77 [some (aR 188)] (r.toList ++ []) h' Q))
    (z2 : (¬ u0 = 0) → Q (.inl (some (aI 4))) (G, c)) :
    T (d + 1) 255 63 [some (aR 188)] [aI u0] (G, c) Q := by
  refine e_eq1 (t := 70) (show decode (mC 255) 63 = .ok (.ifCond .eq 7, 3) by decide +kernel) (by decide) s0 (fun p1 => ?_) (fun p1 => ?_)
  · refine e_L (L' := [some (aR 188)]) (st' := [aR 188]) (show decode (mC 255) 70 = .ok (.aload_n 0, 1) by decide +kernel) rfl (by show (if 188 = 0 then none else some (_, _)) = _; rw [if_neg (by decide)]) ?_
    refine e_ldc2 (show decode (mC 255) 71 = .ok (.ldc2_w 136, 3) by decide +kernel) (show pl 12 136 = some (9, 0, 0, 108205031319667) by decide +kernel) ?_
    exact e_V (as := [aR 188, aL 108205031319667]) (rest := []) (show decode (mC 255) 74 = .ok (.invokevirtual 203, 3) by decide +kernel) (by decide +kernel) (show (decide ((2 : Nat) = mA 174) && decide (174 < q_law)) = true by decide +kernel) rfl (show (0 : Nat) ≤ 8 by decide) (show (3 : Nat) ≤ mL 174 by decide +kernel) rfl (sh_ok hG (by decide +kernel)) (m1 p1)
  · refine e_P (st' := [aI 4]) (show decode (mC 255) 66 = .ok (.iconst 4, 1) by decide +kernel) rfl rfl rfl ?_
    refine e_go (t := 115) (show decode (mC 255) 67 = .ok (.goto 48, 3) by decide +kernel) (by decide) ?_
    exact e_iret (show decode (mC 255) 115 = .ok (.ireturn, 1) by decide +kernel) rfl (z2 p1)
/-- SoulOfficeModel.leafOf()I, from 77 -/
theorem b255_77 (hG : Shp G) {u0 : Int}
    (s0 : -2147483648 ≤ u0 ∧ u0 < 2147483648)
    (m1 : (u0 = 0) → TM d 174 [aR 188, aL 1818584692] (G, c) (fun r h' => T (d + 1) 255 91 [some (aR 188)] (r.toList ++ []) h' Q))
    (z2 : (¬ u0 = 0) → Q (.inl (some (aI 5))) (G, c)) :
    T (d + 1) 255 77 [some (aR 188)] [aI u0] (G, c) Q := by
  refine e_eq1 (t := 84) (show decode (mC 255) 77 = .ok (.ifCond .eq 7, 3) by decide +kernel) (by decide) s0 (fun p1 => ?_) (fun p1 => ?_)
  · refine e_L (L' := [some (aR 188)]) (st' := [aR 188]) (show decode (mC 255) 84 = .ok (.aload_n 0, 1) by decide +kernel) rfl (by show (if 188 = 0 then none else some (_, _)) = _; rw [if_neg (by decide)]) ?_
    refine e_ldc2 (show decode (mC 255) 85 = .ok (.ldc2_w 138, 3) by decide +kernel) (show pl 12 138 = some (9, 0, 0, 1818584692) by decide +kernel) ?_
    exact e_V (as := [aR 188, aL 1818584692]) (rest := []) (show decode (mC 255) 88 = .ok (.invokevirtual 203, 3) by decide +kernel) (by decide +kernel) (show (decide ((2 : Nat) = mA 174) && decide (174 < q_law)) = true by decide +kernel) rfl (show (0 : Nat) ≤ 8 by decide) (show (3 : Nat) ≤ mL 174 by decide +kernel) rfl (sh_ok hG (by decide +kernel)) (m1 p1)
  · refine e_P (st' := [aI 5]) (show decode (mC 255) 80 = .ok (.iconst 5, 1) by decide +kernel) rfl rfl rfl ?_
    refine e_go (t := 115) (show decode (mC 255) 81 = .ok (.goto 34, 3) by decide +kernel) (by decide) ?_
    exact e_iret (show decode (mC 255) 115 = .ok (.ireturn, 1) by decide +kernel) rfl (z2 p1)
/-- SoulOfficeModel.leafOf()I, from 91 -/
theorem b255_91 (hG : Shp G) {u0 : Int} (hQ : ∀ o o' h', q_eqo o o' → Q o h' → Q o' h')
    (s0 : -2147483648 ≤ u0 ∧ u0 < 2147483648)
    (m1 : (u0 = 0) → TM d 174 [aR 188, aL 482854658917] (G, c) (fun r h' => T (d + 1) 255 106 [none] (r.toList ++ []) h' Q))
    (z2 : (¬ u0 = 0) → Q (.inl (some (aI 6))) (G, c)) :
    T (d + 1) 255 91 [some (aR 188)] [aI u0] (G, c) Q := by
  refine e_eq1 (t := 99) (show decode (mC 255) 91 = .ok (.ifCond .eq 8, 3) by decide +kernel) (by decide) s0 (fun p1 => ?_) (fun p1 => ?_)
  · refine e_L (L' := [some (aR 188)]) (st' := [aR 188]) (show decode (mC 255) 99 = .ok (.aload_n 0, 1) by decide +kernel) rfl (by show (if 188 = 0 then none else some (_, _)) = _; rw [if_neg (by decide)]) ?_
    refine e_ldc2 (show decode (mC 255) 100 = .ok (.ldc2_w 140, 3) by decide +kernel) (show pl 12 140 = some (9, 0, 0, 482854658917) by decide +kernel) ?_
    exact e_V (as := [aR 188, aL 482854658917]) (rest := []) (show decode (mC 255) 103 = .ok (.invokevirtual 203, 3) by decide +kernel) (by decide +kernel) (show (decide ((2 : Nat) = mA 174) && decide (174 < q_law)) = true by decide +kernel) rfl (show (0 : Nat) ≤ 8 by decide) (show (3 : Nat) ≤ mL 174 by decide +kernel) rfl (sh_ok hG (by decide +kernel)) (tm_le hQ (leN leE) (m1 p1))
  · refine e_P (st' := [aI 6]) (show decode (mC 255) 94 = .ok (.bipush 6, 2) by decide +kernel) rfl rfl rfl ?_
    refine e_go (t := 115) (show decode (mC 255) 96 = .ok (.goto 19, 3) by decide +kernel) (by decide) ?_
    exact e_iret (show decode (mC 255) 115 = .ok (.ireturn, 1) by decide +kernel) rfl (z2 p1)
/-- SoulOfficeModel.leafOf()I, from 106 -/
theorem b255_106 (hG : Shp G) {u0 : Int}
    (s0 : -2147483648 ≤ u0 ∧ u0 < 2147483648)
    (z1 : (u0 = 0) → Q (.inl (some (aI (-1)))) (G, c))
    (z2 : (¬ u0 = 0) → Q (.inl (some (aI 7))) (G, c)) :
    T (d + 1) 255 106 [none] [aI u0] (G, c) Q := by
  refine e_eq1 (t := 114) (show decode (mC 255) 106 = .ok (.ifCond .eq 8, 3) by decide +kernel) (by decide) s0 (fun p1 => ?_) (fun p1 => ?_)
  · refine e_P (st' := [aI (-1)]) (show decode (mC 255) 114 = .ok (.iconst (-1), 1) by decide +kernel) rfl rfl rfl ?_
    exact e_iret (show decode (mC 255) 115 = .ok (.ireturn, 1) by decide +kernel) rfl (z1 p1)
  · refine e_P (st' := [aI 7]) (show decode (mC 255) 109 = .ok (.bipush 7, 2) by decide +kernel) rfl rfl rfl ?_
    refine e_go (t := 115) (show decode (mC 255) 111 = .ok (.goto 4, 3) by decide +kernel) (by decide) ?_
    exact e_iret (show decode (mC 255) 115 = .ok (.ireturn, 1) by decide +kernel) rfl (z2 p1)
/-- SoulOfficeModel.operand()Z, from 0 -/
theorem b256_0 (hG : Shp G)
    (m0 : TM d 174 [aR 188, aL 7237492] (G, c) (fun r h' => T (d + 1) 256 7 [some (aR 188), none, none, none, none] (r.toList ++ []) h' Q)) :
    T (d + 1) 256 0 [some (aR 188), none, none, none, none] [] (G, c) Q := by
  refine e_L (L' := [some (aR 188), none, none, none, none]) (st' := [aR 188]) (show decode (mC 256) 0 = .ok (.aload_n 0, 1) by decide +kernel) rfl (by show (if 188 = 0 then none else some (_, _)) = _; rw [if_neg (by decide)]) ?_
  refine e_ldc2 (show decode (mC 256) 1 = .ok (.ldc2_w 126, 3) by decide +kernel) (show pl 12 126 = some (9, 0, 0, 7237492) by decide +kernel) ?_
  exact e_V (as := [aR 188, aL 7237492]) (rest := []) (show decode (mC 256) 4 = .ok (.invokevirtual 203, 3) by decide +kernel) (by decide +kernel) (show (decide ((2 : Nat) = mA 174) && decide (174 < q_law)) = true by decide +kernel) rfl (show (0 : Nat) ≤ 8 by decide) (show (3 : Nat) ≤ mL 174 by decide +kernel) rfl (sh_ok hG (by decide +kernel)) m0
end QB32
