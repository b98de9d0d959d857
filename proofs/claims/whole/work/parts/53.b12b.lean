section QB23
variable {d : Nat} {G : GG} {c : CC} {Q : OO → HH → Prop}
/-- SoulOfficeModel.next()V, from 243 -/
theorem b172_243 (hG : Shp G) {v2 v3 u1 u2 x1 x2 x3 x4 : Int}
    (s0 : -2147483648 ≤ u2 ∧ u2 < 2147483648)
    (ex1 : (q_up c 188 17 (q_lor u1 u2)) 188 13 = x1)
    (s2 : -2147483648 ≤ x1 ∧ x1 < 2147483648)
    (ex2 : (q_up c 188 17 (q_lor u1 u2)) 188 13 = x2)
    (ex3 : (q_up (q_up c 188 17 (q_lor u1 u2)) 188 13 (x2 + 1)) 188 4 = x3)
    (k5 : (3 ≤ x1) → T (d + 1) 172 181 [some (aR 188), none, some (aI v2), some (aI v3)] [] (G, (q_up (q_up (q_up c 188 17 (q_lor u1 u2)) 188 13 (x2 + 1)) 188 4 (x3 + 1))) Q)
    (ex4 : (q_up c 188 17 (q_lor u1 u2)) 188 14 = x4)
    (m7 : (x1 < 3) → TM d 169 [aR 188] (G, (q_up c 188 17 (q_lor u1 u2))) (fun r h' => T (d + 1) 172 268 [some (aR 188), none, some (aI v2), some (aI v3)] (r.toList ++ [aI (10 * x4), aR 188]) h' Q)) :
    T (d + 1) 172 243 [some (aR 188), none, some (aI v2), some (aI v3)] [aI u2, aL u1, aR 188] (G, c) Q := by
  refine e_i2l (show decode (mC 172) 243 = .ok (.i2l, 1) by decide +kernel) s0 ?_
  refine e_P (st' := [aL (q_lor u1 u2), aR 188]) (show decode (mC 172) 244 = .ok (.lor, 1) by decide +kernel) rfl rfl rfl ?_
  refine e_putL (show decode (mC 172) 245 = .ok (.putfield 165, 3) by decide +kernel) (show pl 12 165 = some (0, 12, 17, 0) by decide +kernel) (by decide) (sh_ok hG (by decide +kernel)) ?_
  refine e_L (L' := [some (aR 188), none, some (aI v2), some (aI v3)]) (st' := [aR 188]) (show decode (mC 172) 248 = .ok (.aload_n 0, 1) by decide +kernel) rfl (by show (if 188 = 0 then none else some (_, _)) = _; rw [if_neg (by decide)]) ?_
  refine e_getIx (show decode (mC 172) 249 = .ok (.getfield 149, 3) by decide +kernel) (show pl 12 149 = some (0, 12, 13, 0) by decide +kernel) (by decide) (sh_ok hG (by decide +kernel)) ex1 ?_
  refine e_P (st' := [aI 3, aI x1]) (show decode (mC 172) 252 = .ok (.iconst 3, 1) by decide +kernel) rfl rfl rfl ?_
  refine e_ge2 (t := 275) (show decode (mC 172) 253 = .ok (.if_icmp .ge 22, 3) by decide +kernel) (by decide) s2 (by decide) (fun p1 => ?_) (fun p1 => ?_)
  · refine e_L (L' := [some (aR 188), none, some (aI v2), some (aI v3)]) (st' := [aR 188]) (show decode (mC 172) 275 = .ok (.aload_n 0, 1) by decide +kernel) rfl (by show (if 188 = 0 then none else some (_, _)) = _; rw [if_neg (by decide)]) ?_
    refine e_P (st' := [aR 188, aR 188]) (show decode (mC 172) 276 = .ok (.dup, 1) by decide +kernel) rfl rfl rfl ?_
    refine e_getIx (show decode (mC 172) 277 = .ok (.getfield 149, 3) by decide +kernel) (show pl 12 149 = some (0, 12, 13, 0) by decide +kernel) (by decide) (sh_ok hG (by decide +kernel)) ex2 ?_
    refine e_P (st' := [aI 1, aI x2, aR 188]) (show decode (mC 172) 280 = .ok (.iconst 1, 1) by decide +kernel) rfl rfl rfl ?_
    refine e_P (st' := [aI (x2 + 1), aR 188]) (show decode (mC 172) 281 = .ok (.iadd, 1) by decide +kernel) rfl rfl rfl ?_
    refine e_putI (show decode (mC 172) 282 = .ok (.putfield 149, 3) by decide +kernel) (show pl 12 149 = some (0, 12, 13, 0) by decide +kernel) (by decide) (sh_ok hG (by decide +kernel)) ?_
    refine e_L (L' := [some (aR 188), none, some (aI v2), some (aI v3)]) (st' := [aR 188]) (show decode (mC 172) 285 = .ok (.aload_n 0, 1) by decide +kernel) rfl (by show (if 188 = 0 then none else some (_, _)) = _; rw [if_neg (by decide)]) ?_
    refine e_P (st' := [aR 188, aR 188]) (show decode (mC 172) 286 = .ok (.dup, 1) by decide +kernel) rfl rfl rfl ?_
    refine e_getIx (show decode (mC 172) 287 = .ok (.getfield 21, 3) by decide +kernel) (show pl 12 21 = some (0, 12, 4, 0) by decide +kernel) (by decide) (sh_ok hG (by decide +kernel)) ex3 ?_
    refine e_P (st' := [aI 1, aI x3, aR 188]) (show decode (mC 172) 290 = .ok (.iconst 1, 1) by decide +kernel) rfl rfl rfl ?_
    refine e_P (st' := [aI (x3 + 1), aR 188]) (show decode (mC 172) 291 = .ok (.iadd, 1) by decide +kernel) rfl rfl rfl ?_
    refine e_putI (show decode (mC 172) 292 = .ok (.putfield 21, 3) by decide +kernel) (show pl 12 21 = some (0, 12, 4, 0) by decide +kernel) (by decide) (sh_ok hG (by decide +kernel)) ?_
    refine e_go (t := 181) (show decode (mC 172) 295 = .ok (.goto (-114), 3) by decide +kernel) (by decide) ?_
    exact (k5 p1)
  · refine e_L (L' := [some (aR 188), none, some (aI v2), some (aI v3)]) (st' := [aR 188]) (show decode (mC 172) 256 = .ok (.aload_n 0, 1) by decide +kernel) rfl (by show (if 188 = 0 then none else some (_, _)) = _; rw [if_neg (by decide)]) ?_
    refine e_P (st' := [aI 10, aR 188]) (show decode (mC 172) 257 = .ok (.bipush 10, 2) by decide +kernel) rfl rfl rfl ?_
    refine e_L (L' := [some (aR 188), none, some (aI v2), some (aI v3)]) (st' := [aR 188, aI 10, aR 188]) (show decode (mC 172) 259 = .ok (.aload_n 0, 1) by decide +kernel) rfl (by show (if 188 = 0 then none else some (_, _)) = _; rw [if_neg (by decide)]) ?_
    refine e_getIx (show decode (mC 172) 260 = .ok (.getfield 162, 3) by decide +kernel) (show pl 12 162 = some (0, 12, 14, 0) by decide +kernel) (by decide) (sh_ok hG (by decide +kernel)) ex4 ?_
    refine e_P (st' := [aI (10 * x4), aR 188]) (show decode (mC 172) 263 = .ok (.imul, 1) by decide +kernel) rfl rfl rfl ?_
    refine e_L (L' := [some (aR 188), none, some (aI v2), some (aI v3)]) (st' := [aR 188, aI (10 * x4), aR 188]) (show decode (mC 172) 264 = .ok (.aload_n 0, 1) by decide +kernel) rfl (by show (if 188 = 0 then none else some (_, _)) = _; rw [if_neg (by decide)]) ?_
    exact e_V (as := [aR 188]) (rest := [aI (10 * x4), aR 188]) (show decode (mC 172) 265 = .ok (.invokevirtual 142, 3) by decide +kernel) (by decide +kernel) (show (decide ((1 : Nat) = mA 169) && decide (169 < q_law)) = true by decide +kernel) rfl (show (2 : Nat) ≤ 8 by decide) (show (1 : Nat) ≤ mL 169 by decide +kernel) rfl (sh_ok hG (by decide +kernel)) (m7 p1)
/-- SoulOfficeModel.next()V, from 268 -/
theorem b172_268 (hG : Shp G) {v2 v3 u1 u2 x1 x2 : Int}
    (ex1 : (q_up c 188 14 ((u1 + u2) - 48)) 188 13 = x1)
    (ex2 : (q_up (q_up c 188 14 ((u1 + u2) - 48)) 188 13 (x1 + 1)) 188 4 = x2)
    (k2 : T (d + 1) 172 181 [some (aR 188), none, some (aI v2), some (aI v3)] [] (G, (q_up (q_up (q_up c 188 14 ((u1 + u2) - 48)) 188 13 (x1 + 1)) 188 4 (x2 + 1))) Q) :
    T (d + 1) 172 268 [some (aR 188), none, some (aI v2), some (aI v3)] [aI u2, aI u1, aR 188] (G, c) Q := by
  refine e_P (st' := [aI (u1 + u2), aR 188]) (show decode (mC 172) 268 = .ok (.iadd, 1) by decide +kernel) rfl rfl rfl ?_
  refine e_P (st' := [aI 48, aI (u1 + u2), aR 188]) (show decode (mC 172) 269 = .ok (.bipush 48, 2) by decide +kernel) rfl rfl rfl ?_
  refine e_P (st' := [aI ((u1 + u2) - 48), aR 188]) (show decode (mC 172) 271 = .ok (.isub, 1) by decide +kernel) rfl rfl rfl ?_
  refine e_putI (show decode (mC 172) 272 = .ok (.putfield 162, 3) by decide +kernel) (show pl 12 162 = some (0, 12, 14, 0) by decide +kernel) (by decide) (sh_ok hG (by decide +kernel)) ?_
  refine e_L (L' := [some (aR 188), none, some (aI v2), some (aI v3)]) (st' := [aR 188]) (show decode (mC 172) 275 = .ok (.aload_n 0, 1) by decide +kernel) rfl (by show (if 188 = 0 then none else some (_, _)) = _; rw [if_neg (by decide)]) ?_
  refine e_P (st' := [aR 188, aR 188]) (show decode (mC 172) 276 = .ok (.dup, 1) by decide +kernel) rfl rfl rfl ?_
  refine e_getIx (show decode (mC 172) 277 = .ok (.getfield 149, 3) by decide +kernel) (show pl 12 149 = some (0, 12, 13, 0) by decide +kernel) (by decide) (sh_ok hG (by decide +kernel)) ex1 ?_
  refine e_P (st' := [aI 1, aI x1, aR 188]) (show decode (mC 172) 280 = .ok (.iconst 1, 1) by decide +kernel) rfl rfl rfl ?_
  refine e_P (st' := [aI (x1 + 1), aR 188]) (show decode (mC 172) 281 = .ok (.iadd, 1) by decide +kernel) rfl rfl rfl ?_
  refine e_putI (show decode (mC 172) 282 = .ok (.putfield 149, 3) by decide +kernel) (show pl 12 149 = some (0, 12, 13, 0) by decide +kernel) (by decide) (sh_ok hG (by decide +kernel)) ?_
  refine e_L (L' := [some (aR 188), none, some (aI v2), some (aI v3)]) (st' := [aR 188]) (show decode (mC 172) 285 = .ok (.aload_n 0, 1) by decide +kernel) rfl (by show (if 188 = 0 then none else some (_, _)) = _; rw [if_neg (by decide)]) ?_
  refine e_P (st' := [aR 188, aR 188]) (show decode (mC 172) 286 = .ok (.dup, 1) by decide +kernel) rfl rfl rfl ?_
  refine e_getIx (show decode (mC 172) 287 = .ok (.getfield 21, 3) by decide +kernel) (show pl 12 21 = some (0, 12, 4, 0) by decide +kernel) (by decide) (sh_ok hG (by decide +kernel)) ex2 ?_
  refine e_P (st' := [aI 1, aI x2, aR 188]) (show decode (mC 172) 290 = .ok (.iconst 1, 1) by decide +kernel) rfl rfl rfl ?_
  refine e_P (st' := [aI (x2 + 1), aR 188]) (show decode (mC 172) 291 = .ok (.iadd, 1) by decide +kernel) rfl rfl rfl ?_
  refine e_putI (show decode (mC 172) 292 = .ok (.putfield 21, 3) by decide +kernel) (show pl 12 21 = some (0, 12, 4, 0) by decide +kernel) (by decide) (sh_ok hG (by decide +kernel)) ?_
  refine e_go (t := 181) (show decode (mC 172) 295 = .ok (.goto (-114), 3) by decide +kernel) (by decide) ?_
  exact k2
/-- SoulOfficeModel.bad(I)Z, from 0 -/
theorem b173_0 (hG : Shp G) {v1 x1 : Int}
    (ex1 : (q_up c 188 15 v1) 188 12 = x1)
    (z1 : Q (.inl (some (aI 0))) (G, (q_up (q_up c 188 15 v1) 188 16 x1))) :
    T d 173 0 [some (aR 188), some (aI v1)] [] (G, c) Q := by
  refine e_L (L' := [some (aR 188), some (aI v1)]) (st' := [aR 188]) (show decode (mC 173) 0 = .ok (.aload_n 0, 1) by decide +kernel) rfl (by show (if 188 = 0 then none else some (_, _)) = _; rw [if_neg (by decide)]) ?_
  refine e_L (L' := [some (aR 188), some (aI v1)]) (st' := [aI v1, aR 188]) (show decode (mC 173) 1 = .ok (.iload_n 1, 1) by decide +kernel) rfl rfl ?_
  refine e_putI (show decode (mC 173) 2 = .ok (.putfield 169, 3) by decide +kernel) (show pl 12 169 = some (0, 12, 15, 0) by decide +kernel) (by decide) (sh_ok hG (by decide +kernel)) ?_
  refine e_L (L' := [some (aR 188), some (aI v1)]) (st' := [aR 188]) (show decode (mC 173) 5 = .ok (.aload_n 0, 1) by decide +kernel) rfl (by show (if 188 = 0 then none else some (_, _)) = _; rw [if_neg (by decide)]) ?_
  refine e_L (L' := [some (aR 188), some (aI v1)]) (st' := [aR 188, aR 188]) (show decode (mC 173) 6 = .ok (.aload_n 0, 1) by decide +kernel) rfl (by show (if 188 = 0 then none else some (_, _)) = _; rw [if_neg (by decide)]) ?_
  refine e_getIx (show decode (mC 173) 7 = .ok (.getfield 146, 3) by decide +kernel) (show pl 12 146 = some (0, 12, 12, 0) by decide +kernel) (by decide) (sh_ok hG (by decide +kernel)) ex1 ?_
  refine e_putI (show decode (mC 173) 10 = .ok (.putfield 172, 3) by decide +kernel) (show pl 12 172 = some (0, 12, 16, 0) by decide +kernel) (by decide) (sh_ok hG (by decide +kernel)) ?_
  refine e_P (st' := [aI 0]) (show decode (mC 173) 13 = .ok (.iconst 0, 1) by decide +kernel) rfl rfl rfl ?_
  exact e_zret (show decode (mC 173) 14 = .ok (.ireturn, 1) by decide +kernel) rfl (by decide) z1
/-- SoulOfficeModel.isWord(J)Z, from 0 -/
theorem b174_0 (hG : Shp G) {v1 x1 x2 : Int}
    (ex1 : c 188 11 = x1)
    (s1 : -2147483648 ≤ x1 ∧ x1 < 2147483648)
    (z2 : (¬ x1 = 1) → Q (.inl (some (aI 0))) (G, c))
    (ex2 : c 188 17 = x2)
    (s4 : (x1 = 1) → -9223372036854775808 ≤ x2 ∧ x2 < 9223372036854775808)
    (s5 : (x1 = 1) → -9223372036854775808 ≤ v1 ∧ v1 < 9223372036854775808)
    (s6 : (x1 = 1) → -2147483648 ≤ (if x2 < v1 then (-1 : Int) else if x2 = v1 then 0 else 1) ∧ (if x2 < v1 then (-1 : Int) else if x2 = v1 then 0 else 1) < 2147483648)
    (z7 : (x1 = 1) → (¬ (if x2 < v1 then (-1 : Int) else if x2 = v1 then 0 else 1) = 0) → Q (.inl (some (aI 0))) (G, c))
    (z8 : (x1 = 1) → ((if x2 < v1 then (-1 : Int) else if x2 = v1 then 0 else 1) = 0) → Q (.inl (some (aI 1))) (G, c)) :
    T d 174 0 [some (aR 188), some (aL v1), none] [] (G, c) Q := by
  refine e_L (L' := [some (aR 188), some (aL v1), none]) (st' := [aR 188]) (show decode (mC 174) 0 = .ok (.aload_n 0, 1) by decide +kernel) rfl (by show (if 188 = 0 then none else some (_, _)) = _; rw [if_neg (by decide)]) ?_
  refine e_getIx (show decode (mC 174) 1 = .ok (.getfield 152, 3) by decide +kernel) (show pl 12 152 = some (0, 12, 11, 0) by decide +kernel) (by decide) (sh_ok hG (by decide +kernel)) ex1 ?_
  refine e_P (st' := [aI 1, aI x1]) (show decode (mC 174) 4 = .ok (.iconst 1, 1) by decide +kernel) rfl rfl rfl ?_
  refine e_ne2 (t := 21) (show decode (mC 174) 5 = .ok (.if_icmp .ne 16, 3) by decide +kernel) (by decide) s1 (by decide) (fun p1 => ?_) (fun p1 => ?_)
  · refine e_P (st' := [aI 0]) (show decode (mC 174) 21 = .ok (.iconst 0, 1) by decide +kernel) rfl rfl rfl ?_
    exact e_zret (show decode (mC 174) 22 = .ok (.ireturn, 1) by decide +kernel) rfl (by decide) (z2 p1)
  · refine e_L (L' := [some (aR 188), some (aL v1), none]) (st' := [aR 188]) (show decode (mC 174) 8 = .ok (.aload_n 0, 1) by decide +kernel) rfl (by show (if 188 = 0 then none else some (_, _)) = _; rw [if_neg (by decide)]) ?_
    refine e_getLx (show decode (mC 174) 9 = .ok (.getfield 165, 3) by decide +kernel) (show pl 12 165 = some (0, 12, 17, 0) by decide +kernel) (by decide) (sh_ok hG (by decide +kernel)) ex2 ?_
    refine e_L (L' := [some (aR 188), some (aL v1), none]) (st' := [aL v1, aL x2]) (show decode (mC 174) 12 = .ok (.lload_n 1, 1) by decide +kernel) rfl rfl ?_
    refine e_lcmp (show decode (mC 174) 13 = .ok (.lcmp, 1) by decide +kernel) (s4 p1) (s5 p1) ?_
    refine e_ne1 (t := 21) (show decode (mC 174) 14 = .ok (.ifCond .ne 7, 3) by decide +kernel) (by decide) (s6 p1) (fun p2 => ?_) (fun p2 => ?_)
    · refine e_P (st' := [aI 0]) (show decode (mC 174) 21 = .ok (.iconst 0, 1) by decide +kernel) rfl rfl rfl ?_
      exact e_zret (show decode (mC 174) 22 = .ok (.ireturn, 1) by decide +kernel) rfl (by decide) (z7 p1 p2)
    · refine e_P (st' := [aI 1]) (show decode (mC 174) 17 = .ok (.iconst 1, 1) by decide +kernel) rfl rfl rfl ?_
      refine e_go (t := 22) (show decode (mC 174) 18 = .ok (.goto 4, 3) by decide +kernel) (by decide) ?_
      exact e_zret (show decode (mC 174) 22 = .ok (.ireturn, 1) by decide +kernel) rfl (by decide) (z8 p1 p2)
/-- SoulOfficeModel.isSign(I)Z, from 0 -/
theorem b175_0 (hG : Shp G) {v1 x1 x2 : Int}
    (ex1 : c 188 11 = x1)
    (s1 : -2147483648 ≤ x1 ∧ x1 < 2147483648)
    (z2 : (¬ x1 = 3) → Q (.inl (some (aI 0))) (G, c))
    (ex2 : c 188 14 = x2)
    (s4 : (x1 = 3) → -2147483648 ≤ x2 ∧ x2 < 2147483648)
    (s5 : (x1 = 3) → -2147483648 ≤ v1 ∧ v1 < 2147483648)
    (z6 : (x1 = 3) → (¬ x2 = v1) → Q (.inl (some (aI 0))) (G, c))
    (z7 : (x1 = 3) → (x2 = v1) → Q (.inl (some (aI 1))) (G, c)) :
    T d 175 0 [some (aR 188), some (aI v1)] [] (G, c) Q := by
  refine e_L (L' := [some (aR 188), some (aI v1)]) (st' := [aR 188]) (show decode (mC 175) 0 = .ok (.aload_n 0, 1) by decide +kernel) rfl (by show (if 188 = 0 then none else some (_, _)) = _; rw [if_neg (by decide)]) ?_
  refine e_getIx (show decode (mC 175) 1 = .ok (.getfield 152, 3) by decide +kernel) (show pl 12 152 = some (0, 12, 11, 0) by decide +kernel) (by decide) (sh_ok hG (by decide +kernel)) ex1 ?_
  refine e_P (st' := [aI 3, aI x1]) (show decode (mC 175) 4 = .ok (.iconst 3, 1) by decide +kernel) rfl rfl rfl ?_
  refine e_ne2 (t := 20) (show decode (mC 175) 5 = .ok (.if_icmp .ne 15, 3) by decide +kernel) (by decide) s1 (by decide) (fun p1 => ?_) (fun p1 => ?_)
  · refine e_P (st' := [aI 0]) (show decode (mC 175) 20 = .ok (.iconst 0, 1) by decide +kernel) rfl rfl rfl ?_
    exact e_zret (show decode (mC 175) 21 = .ok (.ireturn, 1) by decide +kernel) rfl (by decide) (z2 p1)
  · refine e_L (L' := [some (aR 188), some (aI v1)]) (st' := [aR 188]) (show decode (mC 175) 8 = .ok (.aload_n 0, 1) by decide +kernel) rfl (by show (if 188 = 0 then none else some (_, _)) = _; rw [if_neg (by decide)]) ?_
    refine e_getIx (show decode (mC 175) 9 = .ok (.getfield 162, 3) by decide +kernel) (show pl 12 162 = some (0, 12, 14, 0) by decide +kernel) (by decide) (sh_ok hG (by decide +kernel)) ex2 ?_
    refine e_L (L' := [some (aR 188), some (aI v1)]) (st' := [aI v1, aI x2]) (show decode (mC 175) 12 = .ok (.iload_n 1, 1) by decide +kernel) rfl rfl ?_
    refine e_ne2 (t := 20) (show decode (mC 175) 13 = .ok (.if_icmp .ne 7, 3) by decide +kernel) (by decide) (s4 p1) (s5 p1) (fun p2 => ?_) (fun p2 => ?_)
    · refine e_P (st' := [aI 0]) (show decode (mC 175) 20 = .ok (.iconst 0, 1) by decide +kernel) rfl rfl rfl ?_
      exact e_zret (show decode (mC 175) 21 = .ok (.ireturn, 1) by decide +kernel) rfl (by decide) (z6 p1 p2)
    · refine e_P (st' := [aI 1]) (show decode (mC 175) 16 = .ok (.iconst 1, 1) by decide +kernel) rfl rfl rfl ?_
      refine e_go (t := 21) (show decode (mC 175) 17 = .ok (.goto 4, 3) by decide +kernel) (by decide) ?_
      exact e_zret (show decode (mC 175) 21 = .ok (.ireturn, 1) by decide +kernel) rfl (by decide) (z7 p1 p2)
/-- SoulOfficeModel.sign(I)Z, from 0 -/
theorem b176_0 (hG : Shp G) {v1 : Int} (hQ : ∀ o o' h', q_eqo o o' → Q o h' → Q o' h')
    (m0 : TM d 175 [aR 188, aI v1] (G, c) (fun r h' => T (d + 1) 176 5 [some (aR 188), none] (r.toList ++ []) h' Q)) :
    T (d + 1) 176 0 [some (aR 188), some (aI v1)] [] (G, c) Q := by
  refine e_L (L' := [some (aR 188), some (aI v1)]) (st' := [aR 188]) (show decode (mC 176) 0 = .ok (.aload_n 0, 1) by decide +kernel) rfl (by show (if 188 = 0 then none else some (_, _)) = _; rw [if_neg (by decide)]) ?_
  refine e_L (L' := [some (aR 188), some (aI v1)]) (st' := [aI v1, aR 188]) (show decode (mC 176) 1 = .ok (.iload_n 1, 1) by decide +kernel) rfl rfl ?_
  exact e_V (as := [aR 188, aI v1]) (rest := []) (show decode (mC 176) 2 = .ok (.invokevirtual 175, 3) by decide +kernel) (by decide +kernel) (show (decide ((2 : Nat) = mA 175) && decide (175 < q_law)) = true by decide +kernel) rfl (show (0 : Nat) ≤ 8 by decide) (show (2 : Nat) ≤ mL 175 by decide +kernel) rfl (sh_ok hG (by decide +kernel)) (tm_le hQ (leS (leN leE)) m0)
/-- SoulOfficeModel.sign(I)Z, from 5 -/
theorem b176_5 (hG : Shp G) {u0 : Int} (hQ : ∀ o o' h', q_eqo o o' → Q o h' → Q o' h')
    (s0 : -2147483648 ≤ u0 ∧ u0 < 2147483648)
    (m1 : (¬ u0 = 0) → TM d 172 [aR 188] (G, c) (fun r h' => T (d + 1) 176 18 [none, none] (r.toList ++ []) h' Q))
    (m2 : (u0 = 0) → TM d 173 [aR 188, aI 1] (G, c) (fun r h' => T (d + 1) 176 13 [none, none] (r.toList ++ []) h' Q)) :
    T (d + 1) 176 5 [some (aR 188), none] [aI u0] (G, c) Q := by
  refine e_ne1 (t := 14) (show decode (mC 176) 5 = .ok (.ifCond .ne 9, 3) by decide +kernel) (by decide) s0 (fun p1 => ?_) (fun p1 => ?_)
  · refine e_L (L' := [some (aR 188), none]) (st' := [aR 188]) (show decode (mC 176) 14 = .ok (.aload_n 0, 1) by decide +kernel) rfl (by show (if 188 = 0 then none else some (_, _)) = _; rw [if_neg (by decide)]) ?_
    exact e_V (as := [aR 188]) (rest := []) (show decode (mC 176) 15 = .ok (.invokevirtual 181, 3) by decide +kernel) (by decide +kernel) (show (decide ((1 : Nat) = mA 172) && decide (172 < q_law)) = true by decide +kernel) rfl (show (0 : Nat) ≤ 8 by decide) (show (1 : Nat) ≤ mL 172 by decide +kernel) rfl (sh_ok hG (by decide +kernel)) (tm_le hQ (leN (leS leE)) (m1 p1))
  · refine e_L (L' := [some (aR 188), none]) (st' := [aR 188]) (show decode (mC 176) 8 = .ok (.aload_n 0, 1) by decide +kernel) rfl (by show (if 188 = 0 then none else some (_, _)) = _; rw [if_neg (by decide)]) ?_
    refine e_P (st' := [aI 1, aR 188]) (show decode (mC 176) 9 = .ok (.iconst 1, 1) by decide +kernel) rfl rfl rfl ?_
    exact e_V (as := [aR 188, aI 1]) (rest := []) (show decode (mC 176) 10 = .ok (.invokevirtual 178, 3) by decide +kernel) (by decide +kernel) (show (decide ((2 : Nat) = mA 173) && decide (173 < q_law)) = true by decide +kernel) rfl (show (0 : Nat) ≤ 8 by decide) (show (2 : Nat) ≤ mL 173 by decide +kernel) rfl (sh_ok hG (by decide +kernel)) (tm_le hQ (leN (leS leE)) (m2 p1))
/-- SoulOfficeModel.sign(I)Z, from 13 -/
theorem b176_13 (hG : Shp G) {u0 : Int}
    (s0 : u0 = 0 ∨ u0 = 1)
    (z1 : Q (.inl (some (aI u0))) (G, c)) :
    T (d + 1) 176 13 [none, none] [aI u0] (G, c) Q := by
  exact e_zret (show decode (mC 176) 13 = .ok (.ireturn, 1) by decide +kernel) rfl s0 z1
/-- SoulOfficeModel.sign(I)Z, from 18 -/
theorem b176_18 (hG : Shp G)
    (z0 : Q (.inl (some (aI 1))) (G, c)) :
    T (d + 1) 176 18 [none, none] [] (G, c) Q := by
  refine e_P (st' := [aI 1]) (show decode (mC 176) 18 = .ok (.iconst 1, 1) by decide +kernel) rfl rfl rfl ?_
  exact e_zret (show decode (mC 176) 19 = .ok (.ireturn, 1) by decide +kernel) rfl (by decide) z0
/-- SoulOfficeModel.isName()Z, from 0 -/
theorem b177_0 (hG : Shp G) {x1 : Int}
    (ex1 : c 188 11 = x1)
    (s1 : -2147483648 ≤ x1 ∧ x1 < 2147483648)
    (k2 : (¬ x1 = 1) → T d 177 16 [some (aR 188), some (aI 0), some (aI 0)] [] (G, c) Q)
    (k3 : (x1 = 1) → T d 177 16 [some (aR 188), some (aI 1), some (aI 0)] [] (G, c) Q) :
    T d 177 0 [some (aR 188), none, none] [] (G, c) Q := by
  refine e_L (L' := [some (aR 188), none, none]) (st' := [aR 188]) (show decode (mC 177) 0 = .ok (.aload_n 0, 1) by decide +kernel) rfl (by show (if 188 = 0 then none else some (_, _)) = _; rw [if_neg (by decide)]) ?_
  refine e_getIx (show decode (mC 177) 1 = .ok (.getfield 152, 3) by decide +kernel) (show pl 12 152 = some (0, 12, 11, 0) by decide +kernel) (by decide) (sh_ok hG (by decide +kernel)) ex1 ?_
  refine e_P (st' := [aI 1, aI x1]) (show decode (mC 177) 4 = .ok (.iconst 1, 1) by decide +kernel) rfl rfl rfl ?_
  refine e_ne2 (t := 12) (show decode (mC 177) 5 = .ok (.if_icmp .ne 7, 3) by decide +kernel) (by decide) s1 (by decide) (fun p1 => ?_) (fun p1 => ?_)
  · refine e_P (st' := [aI 0]) (show decode (mC 177) 12 = .ok (.iconst 0, 1) by decide +kernel) rfl rfl rfl ?_
    refine e_L (L' := [some (aR 188), some (aI 0), none]) (st' := []) (show decode (mC 177) 13 = .ok (.istore_n 1, 1) by decide +kernel) rfl rfl ?_
    refine e_P (st' := [aI 0]) (show decode (mC 177) 14 = .ok (.iconst 0, 1) by decide +kernel) rfl rfl rfl ?_
    refine e_L (L' := [some (aR 188), some (aI 0), some (aI 0)]) (st' := []) (show decode (mC 177) 15 = .ok (.istore_n 2, 1) by decide +kernel) rfl rfl ?_
    exact (k2 p1)
  · refine e_P (st' := [aI 1]) (show decode (mC 177) 8 = .ok (.iconst 1, 1) by decide +kernel) rfl rfl rfl ?_
    refine e_go (t := 13) (show decode (mC 177) 9 = .ok (.goto 4, 3) by decide +kernel) (by decide) ?_
    refine e_L (L' := [some (aR 188), some (aI 1), none]) (st' := []) (show decode (mC 177) 13 = .ok (.istore_n 1, 1) by decide +kernel) rfl rfl ?_
    refine e_P (st' := [aI 0]) (show decode (mC 177) 14 = .ok (.iconst 0, 1) by decide +kernel) rfl rfl rfl ?_
    refine e_L (L' := [some (aR 188), some (aI 1), some (aI 0)]) (st' := []) (show decode (mC 177) 15 = .ok (.istore_n 2, 1) by decide +kernel) rfl rfl ?_
    exact (k3 p1)
/-- SoulOfficeModel.isName()Z, from 16 -/
theorem b177_16 (hG : Shp G) {v1 v2 x1 x2 : Int}
    (s0 : -2147483648 ≤ v2 ∧ v2 < 2147483648)
    (s1 : (20 ≤ v2) → v1 = 0 ∨ v1 = 1)
    (z2 : (20 ≤ v2) → Q (.inl (some (aI v1))) (G, c))
    (s3 : (v2 < 20) → -2147483648 ≤ v1 ∧ v1 < 2147483648)
    (k4 : (v2 < 20) → (v1 = 0) → T d 177 16 [some (aR 188), some (aI 0), some (aI (v2 + 1))] [] (G, c) Q)
    (ex1 : c 188 17 = x1)
    (s6 : (v2 < 20) → (¬ v1 = 0) → 0 ≤ v2)
    (s7 : (v2 < 20) → (¬ v1 = 0) → v2 < 20)
    (ex2 : c 194 v2 = x2)
    (s9 : (v2 < 20) → (¬ v1 = 0) → -9223372036854775808 ≤ x1 ∧ x1 < 9223372036854775808)
    (s10 : (v2 < 20) → (¬ v1 = 0) → -9223372036854775808 ≤ x2 ∧ x2 < 9223372036854775808)
    (s11 : (v2 < 20) → (¬ v1 = 0) → -2147483648 ≤ (if x1 < x2 then (-1 : Int) else if x1 = x2 then 0 else 1) ∧ (if x1 < x2 then (-1 : Int) else if x1 = x2 then 0 else 1) < 2147483648)
    (k12 : (v2 < 20) → (¬ v1 = 0) → ((if x1 < x2 then (-1 : Int) else if x1 = x2 then 0 else 1) = 0) → T d 177 16 [some (aR 188), some (aI 0), some (aI (v2 + 1))] [] (G, c) Q)
    (k13 : (v2 < 20) → (¬ v1 = 0) → (¬ (if x1 < x2 then (-1 : Int) else if x1 = x2 then 0 else 1) = 0) → T d 177 16 [some (aR 188), some (aI 1), some (aI (v2 + 1))] [] (G, c) Q) :
    T d 177 16 [some (aR 188), some (aI v1), some (aI v2)] [] (G, c) Q := by
  refine e_L (L' := [some (aR 188), some (aI v1), some (aI v2)]) (st' := [aI v2]) (show decode (mC 177) 16 = .ok (.iload_n 2, 1) by decide +kernel) rfl rfl ?_
  refine e_P (st' := [aI 20, aI v2]) (show decode (mC 177) 17 = .ok (.bipush 20, 2) by decide +kernel) rfl rfl rfl ?_
  refine e_ge2 (t := 52) (show decode (mC 177) 19 = .ok (.if_icmp .ge 33, 3) by decide +kernel) (by decide) s0 (by decide) (fun p1 => ?_) (fun p1 => ?_)
  · refine e_L (L' := [some (aR 188), some (aI v1), some (aI v2)]) (st' := [aI v1]) (show decode (mC 177) 52 = .ok (.iload_n 1, 1) by decide +kernel) rfl rfl ?_
    exact e_zret (show decode (mC 177) 53 = .ok (.ireturn, 1) by decide +kernel) rfl (s1 p1) (z2 p1)
  · refine e_L (L' := [some (aR 188), some (aI v1), some (aI v2)]) (st' := [aI v1]) (show decode (mC 177) 22 = .ok (.iload_n 1, 1) by decide +kernel) rfl rfl ?_
    refine e_eq1 (t := 44) (show decode (mC 177) 23 = .ok (.ifCond .eq 21, 3) by decide +kernel) (by decide) (s3 p1) (fun p2 => ?_) (fun p2 => ?_)
    · refine e_P (st' := [aI 0]) (show decode (mC 177) 44 = .ok (.iconst 0, 1) by decide +kernel) rfl rfl rfl ?_
      refine e_L (L' := [some (aR 188), some (aI 0), some (aI v2)]) (st' := []) (show decode (mC 177) 45 = .ok (.istore_n 1, 1) by decide +kernel) rfl rfl ?_
      refine e_L (L' := [some (aR 188), some (aI 0), some (aI (v2 + 1))]) (st' := []) (show decode (mC 177) 46 = .ok (.iinc 2 1, 3) by decide +kernel) rfl rfl ?_
      refine e_go (t := 16) (show decode (mC 177) 49 = .ok (.goto (-33), 3) by decide +kernel) (by decide) ?_
      exact (k4 p1 p2)
    · refine e_L (L' := [some (aR 188), some (aI v1), some (aI v2)]) (st' := [aR 188]) (show decode (mC 177) 26 = .ok (.aload_n 0, 1) by decide +kernel) rfl (by show (if 188 = 0 then none else some (_, _)) = _; rw [if_neg (by decide)]) ?_
      refine e_getLx (show decode (mC 177) 27 = .ok (.getfield 165, 3) by decide +kernel) (show pl 12 165 = some (0, 12, 17, 0) by decide +kernel) (by decide) (sh_ok hG (by decide +kernel)) ex1 ?_
      refine e_L (L' := [some (aR 188), some (aI v1), some (aI v2)]) (st' := [aR 188, aL x1]) (show decode (mC 177) 30 = .ok (.aload_n 0, 1) by decide +kernel) rfl (by show (if 188 = 0 then none else some (_, _)) = _; rw [if_neg (by decide)]) ?_
      refine e_getR (w := 194) (show decode (mC 177) 31 = .ok (.getfield 47, 3) by decide +kernel) (show pl 12 47 = some (0, 12, 10, 0) by decide +kernel) (by decide) (sh_ok hG (by decide +kernel)) (sh_rf hG (by decide +kernel)) ?_
      refine e_L (L' := [some (aR 188), some (aI v1), some (aI v2)]) (st' := [aI v2, aR 194, aL x1]) (show decode (mC 177) 34 = .ok (.iload_n 2, 1) by decide +kernel) rfl rfl ?_
      refine e_laldx (n := 20) (show decode (mC 177) 35 = .ok (.laload, 1) by decide +kernel) (sh_ok hG (by decide +kernel)) (sh_ln hG (by decide +kernel)) (by decide) (s6 p1 p2) (s7 p1 p2) ex2 ?_
      refine e_lcmp (show decode (mC 177) 36 = .ok (.lcmp, 1) by decide +kernel) (s9 p1 p2) (s10 p1 p2) ?_
      refine e_eq1 (t := 44) (show decode (mC 177) 37 = .ok (.ifCond .eq 7, 3) by decide +kernel) (by decide) (s11 p1 p2) (fun p3 => ?_) (fun p3 => ?_)
      · refine e_P (st' := [aI 0]) (show decode (mC 177) 44 = .ok (.iconst 0, 1) by decide +kernel) rfl rfl rfl ?_
        refine e_L (L' := [some (aR 188), some (aI 0), some (aI v2)]) (st' := []) (show decode (mC 177) 45 = .ok (.istore_n 1, 1) by decide +kernel) rfl rfl ?_
        refine e_L (L' := [some (aR 188), some (aI 0), some (aI (v2 + 1))]) (st' := []) (show decode (mC 177) 46 = .ok (.iinc 2 1, 3) by decide +kernel) rfl rfl ?_
        refine e_go (t := 16) (show decode (mC 177) 49 = .ok (.goto (-33), 3) by decide +kernel) (by decide) ?_
        exact (k12 p1 p2 p3)
      · refine e_P (st' := [aI 1]) (show decode (mC 177) 40 = .ok (.iconst 1, 1) by decide +kernel) rfl rfl rfl ?_
        refine e_go (t := 45) (show decode (mC 177) 41 = .ok (.goto 4, 3) by decide +kernel) (by decide) ?_
        refine e_L (L' := [some (aR 188), some (aI 1), some (aI v2)]) (st' := []) (show decode (mC 177) 45 = .ok (.istore_n 1, 1) by decide +kernel) rfl rfl ?_
        refine e_L (L' := [some (aR 188), some (aI 1), some (aI (v2 + 1))]) (st' := []) (show decode (mC 177) 46 = .ok (.iinc 2 1, 3) by decide +kernel) rfl rfl ?_
        refine e_go (t := 16) (show decode (mC 177) 49 = .ok (.goto (-33), 3) by decide +kernel) (by decide) ?_
        exact (k13 p1 p2 p3)
/-- SoulOfficeModel.takes(II)Z, from 0 -/
theorem b178_0 (hG : Shp G) {v1 v2 x1 x2 : Int} (hQ : ∀ o o' h', q_eqo o o' → Q o h' → Q o' h')
    (ex1 : c 188 11 = x1)
    (s1 : -2147483648 ≤ x1 ∧ x1 < 2147483648)
    (ex2 : c 188 14 = x2)
    (m3 : (x1 = 2) → TM d 164 [aI x2, aI v1, aI v2] (G, c) (fun r h' => T (d + 1) 178 23 [some (aR 188), none, none] (r.toList ++ []) h' Q))
    (m4 : (¬ x1 = 2) → TM d 173 [aR 188, aI 1] (G, c) (fun r h' => T (d + 1) 178 13 [none, none, none] (r.toList ++ []) h' Q)) :
    T (d + 1) 178 0 [some (aR 188), some (aI v1), some (aI v2)] [] (G, c) Q := by
  refine e_L (L' := [some (aR 188), some (aI v1), some (aI v2)]) (st' := [aR 188]) (show decode (mC 178) 0 = .ok (.aload_n 0, 1) by decide +kernel) rfl (by show (if 188 = 0 then none else some (_, _)) = _; rw [if_neg (by decide)]) ?_
  refine e_getIx (show decode (mC 178) 1 = .ok (.getfield 152, 3) by decide +kernel) (show pl 12 152 = some (0, 12, 11, 0) by decide +kernel) (by decide) (sh_ok hG (by decide +kernel)) ex1 ?_
  refine e_P (st' := [aI 2, aI x1]) (show decode (mC 178) 4 = .ok (.iconst 2, 1) by decide +kernel) rfl rfl rfl ?_
  refine e_eq2 (t := 14) (show decode (mC 178) 5 = .ok (.if_icmp .eq 9, 3) by decide +kernel) (by decide) s1 (by decide) (fun p1 => ?_) (fun p1 => ?_)
  · refine e_L (L' := [some (aR 188), some (aI v1), some (aI v2)]) (st' := [aR 188]) (show decode (mC 178) 14 = .ok (.aload_n 0, 1) by decide +kernel) rfl (by show (if 188 = 0 then none else some (_, _)) = _; rw [if_neg (by decide)]) ?_
    refine e_getIx (show decode (mC 178) 15 = .ok (.getfield 162, 3) by decide +kernel) (show pl 12 162 = some (0, 12, 14, 0) by decide +kernel) (by decide) (sh_ok hG (by decide +kernel)) ex2 ?_
    refine e_L (L' := [some (aR 188), some (aI v1), some (aI v2)]) (st' := [aI v1, aI x2]) (show decode (mC 178) 18 = .ok (.iload_n 1, 1) by decide +kernel) rfl rfl ?_
    refine e_L (L' := [some (aR 188), some (aI v1), some (aI v2)]) (st' := [aI v2, aI v1, aI x2]) (show decode (mC 178) 19 = .ok (.iload_n 2, 1) by decide +kernel) rfl rfl ?_
    exact e_S (as := [aI x2, aI v1, aI v2]) (rest := []) (show decode (mC 178) 20 = .ok (.invokestatic 184, 3) by decide +kernel) (by decide +kernel) (show (decide ((3 : Nat) = mA 164) && decide (164 < q_law)) = true by decide +kernel) rfl (show (0 : Nat) ≤ 8 by decide) (show (3 : Nat) ≤ mL 164 by decide +kernel) (tm_le hQ (leS (leN (leN leE))) (m3 p1))
  · refine e_L (L' := [some (aR 188), some (aI v1), some (aI v2)]) (st' := [aR 188]) (show decode (mC 178) 8 = .ok (.aload_n 0, 1) by decide +kernel) rfl (by show (if 188 = 0 then none else some (_, _)) = _; rw [if_neg (by decide)]) ?_
    refine e_P (st' := [aI 1, aR 188]) (show decode (mC 178) 9 = .ok (.iconst 1, 1) by decide +kernel) rfl rfl rfl ?_
    exact e_V (as := [aR 188, aI 1]) (rest := []) (show decode (mC 178) 10 = .ok (.invokevirtual 178, 3) by decide +kernel) (by decide +kernel) (show (decide ((2 : Nat) = mA 173) && decide (173 < q_law)) = true by decide +kernel) rfl (show (0 : Nat) ≤ 8 by decide) (show (2 : Nat) ≤ mL 173 by decide +kernel) rfl (sh_ok hG (by decide +kernel)) (tm_le hQ (leN (leN (leN leE))) (m4 p1))
/-- SoulOfficeModel.takes(II)Z, from 13 -/
theorem b178_13 (hG : Shp G) {u0 : Int}
    (s0 : u0 = 0 ∨ u0 = 1)
    (z1 : Q (.inl (some (aI u0))) (G, c)) :
    T (d + 1) 178 13 [none, none, none] [aI u0] (G, c) Q := by
  exact e_zret (show decode (mC 178) 13 = .ok (.ireturn, 1) by decide +kernel) rfl s0 z1
/-- SoulOfficeModel.takes(II)Z, from 23 -/
theorem b178_23 (hG : Shp G) {u0 x1 : Int} (hQ : ∀ o o' h', q_eqo o o' → Q o h' → Q o' h')
    (s0 : -2147483648 ≤ u0 ∧ u0 < 2147483648)
    (ex1 : c 188 14 = x1)
    (m2 : (¬ u0 = 0) → TM d 172 [aR 188] (G, (q_up c 188 18 x1)) (fun r h' => T (d + 1) 178 44 [none, none, none] (r.toList ++ []) h' Q))
    (m3 : (u0 = 0) → TM d 173 [aR 188, aI 2] (G, c) (fun r h' => T (d + 1) 178 31 [none, none, none] (r.toList ++ []) h' Q)) :
    T (d + 1) 178 23 [some (aR 188), none, none] [aI u0] (G, c) Q := by
  refine e_ne1 (t := 32) (show decode (mC 178) 23 = .ok (.ifCond .ne 9, 3) by decide +kernel) (by decide) s0 (fun p1 => ?_) (fun p1 => ?_)
  · refine e_L (L' := [some (aR 188), none, none]) (st' := [aR 188]) (show decode (mC 178) 32 = .ok (.aload_n 0, 1) by decide +kernel) rfl (by show (if 188 = 0 then none else some (_, _)) = _; rw [if_neg (by decide)]) ?_
    refine e_L (L' := [some (aR 188), none, none]) (st' := [aR 188, aR 188]) (show decode (mC 178) 33 = .ok (.aload_n 0, 1) by decide +kernel) rfl (by show (if 188 = 0 then none else some (_, _)) = _; rw [if_neg (by decide)]) ?_
    refine e_getIx (show decode (mC 178) 34 = .ok (.getfield 162, 3) by decide +kernel) (show pl 12 162 = some (0, 12, 14, 0) by decide +kernel) (by decide) (sh_ok hG (by decide +kernel)) ex1 ?_
    refine e_putI (show decode (mC 178) 37 = .ok (.putfield 188, 3) by decide +kernel) (show pl 12 188 = some (0, 12, 18, 0) by decide +kernel) (by decide) (sh_ok hG (by decide +kernel)) ?_
    refine e_L (L' := [some (aR 188), none, none]) (st' := [aR 188]) (show decode (mC 178) 40 = .ok (.aload_n 0, 1) by decide +kernel) rfl (by show (if 188 = 0 then none else some (_, _)) = _; rw [if_neg (by decide)]) ?_
    exact e_V (as := [aR 188]) (rest := []) (show decode (mC 178) 41 = .ok (.invokevirtual 181, 3) by decide +kernel) (by decide +kernel) (show (decide ((1 : Nat) = mA 172) && decide (172 < q_law)) = true by decide +kernel) rfl (show (0 : Nat) ≤ 8 by decide) (show (1 : Nat) ≤ mL 172 by decide +kernel) rfl (sh_ok hG (by decide +kernel)) (tm_le hQ (leN (leS (leS leE))) (m2 p1))
  · refine e_L (L' := [some (aR 188), none, none]) (st' := [aR 188]) (show decode (mC 178) 26 = .ok (.aload_n 0, 1) by decide +kernel) rfl (by show (if 188 = 0 then none else some (_, _)) = _; rw [if_neg (by decide)]) ?_
    refine e_P (st' := [aI 2, aR 188]) (show decode (mC 178) 27 = .ok (.iconst 2, 1) by decide +kernel) rfl rfl rfl ?_
    exact e_V (as := [aR 188, aI 2]) (rest := []) (show decode (mC 178) 28 = .ok (.invokevirtual 178, 3) by decide +kernel) (by decide +kernel) (show (decide ((2 : Nat) = mA 173) && decide (173 < q_law)) = true by decide +kernel) rfl (show (0 : Nat) ≤ 8 by decide) (show (2 : Nat) ≤ mL 173 by decide +kernel) rfl (sh_ok hG (by decide +kernel)) (tm_le hQ (leN (leS (leS leE))) (m3 p1))
/-- SoulOfficeModel.takes(II)Z, from 31 -/
theorem b178_31 (hG : Shp G) {u0 : Int}
    (s0 : u0 = 0 ∨ u0 = 1)
    (z1 : Q (.inl (some (aI u0))) (G, c)) :
    T (d + 1) 178 31 [none, none, none] [aI u0] (G, c) Q := by
  exact e_zret (show decode (mC 178) 31 = .ok (.ireturn, 1) by decide +kernel) rfl s0 z1
/-- SoulOfficeModel.takes(II)Z, from 44 -/
theorem b178_44 (hG : Shp G)
    (z0 : Q (.inl (some (aI 1))) (G, c)) :
    T (d + 1) 178 44 [none, none, none] [] (G, c) Q := by
  refine e_P (st' := [aI 1]) (show decode (mC 178) 44 = .ok (.iconst 1, 1) by decide +kernel) rfl rfl rfl ?_
  exact e_zret (show decode (mC 178) 45 = .ok (.ireturn, 1) by decide +kernel) rfl (by decide) z0
/-- SoulOfficeModel.find(II)I, from 0 -/
theorem b179_0 (hG : Shp G) {v1 v2 : Int}
    (k0 : T d 179 2 [some (aR 188), some (aI v1), some (aI v2), some (aI 0)] [] (G, c) Q) :
    T d 179 0 [some (aR 188), some (aI v1), some (aI v2), none] [] (G, c) Q := by
  refine e_P (st' := [aI 0]) (show decode (mC 179) 0 = .ok (.iconst 0, 1) by decide +kernel) rfl rfl rfl ?_
  refine e_L (L' := [some (aR 188), some (aI v1), some (aI v2), some (aI 0)]) (st' := []) (show decode (mC 179) 1 = .ok (.istore_n 3, 1) by decide +kernel) rfl rfl ?_
  exact k0
/-- SoulOfficeModel.find(II)I, from 2 -/
theorem b179_2 (hG : Shp G) {v1 v2 v3 x1 x2 : Int}
    (s0 : -2147483648 ≤ v3 ∧ v3 < 2147483648)
    (s1 : -2147483648 ≤ v2 ∧ v2 < 2147483648)
    (z2 : (v2 ≤ v3) → Q (.inl (some (aI (-1)))) (G, c))
    (s3 : (v3 < v2) → 0 ≤ (v1 + v3))
    (s4 : (v3 < v2) → (v1 + v3) < 28)
    (ex1 : c 193 (v1 + v3) = x1)
    (ex2 : c 188 17 = x2)
    (s7 : (v3 < v2) → -9223372036854775808 ≤ x1 ∧ x1 < 9223372036854775808)
    (s8 : (v3 < v2) → -9223372036854775808 ≤ x2 ∧ x2 < 9223372036854775808)
    (s9 : (v3 < v2) → -2147483648 ≤ (if x1 < x2 then (-1 : Int) else if x1 = x2 then 0 else 1) ∧ (if x1 < x2 then (-1 : Int) else if x1 = x2 then 0 else 1) < 2147483648)
    (k10 : (v3 < v2) → (¬ (if x1 < x2 then (-1 : Int) else if x1 = x2 then 0 else 1) = 0) → T d 179 2 [some (aR 188), some (aI v1), some (aI v2), some (aI (v3 + 1))] [] (G, c) Q)
    (z11 : (v3 < v2) → ((if x1 < x2 then (-1 : Int) else if x1 = x2 then 0 else 1) = 0) → Q (.inl (some (aI v3))) (G, c)) :
    T d 179 2 [some (aR 188), some (aI v1), some (aI v2), some (aI v3)] [] (G, c) Q := by
  refine e_L (L' := [some (aR 188), some (aI v1), some (aI v2), some (aI v3)]) (st' := [aI v3]) (show decode (mC 179) 2 = .ok (.iload_n 3, 1) by decide +kernel) rfl rfl ?_
  refine e_L (L' := [some (aR 188), some (aI v1), some (aI v2), some (aI v3)]) (st' := [aI v2, aI v3]) (show decode (mC 179) 3 = .ok (.iload_n 2, 1) by decide +kernel) rfl rfl ?_
  refine e_ge2 (t := 31) (show decode (mC 179) 4 = .ok (.if_icmp .ge 27, 3) by decide +kernel) (by decide) s0 s1 (fun p1 => ?_) (fun p1 => ?_)
  · refine e_P (st' := [aI (-1)]) (show decode (mC 179) 31 = .ok (.iconst (-1), 1) by decide +kernel) rfl rfl rfl ?_
    exact e_iret (show decode (mC 179) 32 = .ok (.ireturn, 1) by decide +kernel) rfl (z2 p1)
  · refine e_L (L' := [some (aR 188), some (aI v1), some (aI v2), some (aI v3)]) (st' := [aR 188]) (show decode (mC 179) 7 = .ok (.aload_n 0, 1) by decide +kernel) rfl (by show (if 188 = 0 then none else some (_, _)) = _; rw [if_neg (by decide)]) ?_
    refine e_getR (w := 193) (show decode (mC 179) 8 = .ok (.getfield 43, 3) by decide +kernel) (show pl 12 43 = some (0, 12, 9, 0) by decide +kernel) (by decide) (sh_ok hG (by decide +kernel)) (sh_rf hG (by decide +kernel)) ?_
    refine e_L (L' := [some (aR 188), some (aI v1), some (aI v2), some (aI v3)]) (st' := [aI v1, aR 193]) (show decode (mC 179) 11 = .ok (.iload_n 1, 1) by decide +kernel) rfl rfl ?_
    refine e_L (L' := [some (aR 188), some (aI v1), some (aI v2), some (aI v3)]) (st' := [aI v3, aI v1, aR 193]) (show decode (mC 179) 12 = .ok (.iload_n 3, 1) by decide +kernel) rfl rfl ?_
    refine e_P (st' := [aI (v1 + v3), aR 193]) (show decode (mC 179) 13 = .ok (.iadd, 1) by decide +kernel) rfl rfl rfl ?_
    refine e_laldx (n := 28) (show decode (mC 179) 14 = .ok (.laload, 1) by decide +kernel) (sh_ok hG (by decide +kernel)) (sh_ln hG (by decide +kernel)) (by decide) (s3 p1) (s4 p1) ex1 ?_
    refine e_L (L' := [some (aR 188), some (aI v1), some (aI v2), some (aI v3)]) (st' := [aR 188, aL x1]) (show decode (mC 179) 15 = .ok (.aload_n 0, 1) by decide +kernel) rfl (by show (if 188 = 0 then none else some (_, _)) = _; rw [if_neg (by decide)]) ?_
    refine e_getLx (show decode (mC 179) 16 = .ok (.getfield 165, 3) by decide +kernel) (show pl 12 165 = some (0, 12, 17, 0) by decide +kernel) (by decide) (sh_ok hG (by decide +kernel)) ex2 ?_
    refine e_lcmp (show decode (mC 179) 19 = .ok (.lcmp, 1) by decide +kernel) (s7 p1) (s8 p1) ?_
    refine e_ne1 (t := 25) (show decode (mC 179) 20 = .ok (.ifCond .ne 5, 3) by decide +kernel) (by decide) (s9 p1) (fun p2 => ?_) (fun p2 => ?_)
    · refine e_L (L' := [some (aR 188), some (aI v1), some (aI v2), some (aI (v3 + 1))]) (st' := []) (show decode (mC 179) 25 = .ok (.iinc 3 1, 3) by decide +kernel) rfl rfl ?_
      refine e_go (t := 2) (show decode (mC 179) 28 = .ok (.goto (-26), 3) by decide +kernel) (by decide) ?_
      exact (k10 p1 p2)
    · refine e_L (L' := [some (aR 188), some (aI v1), some (aI v2), some (aI v3)]) (st' := [aI v3]) (show decode (mC 179) 23 = .ok (.iload_n 3, 1) by decide +kernel) rfl rfl ?_
      exact e_iret (show decode (mC 179) 24 = .ok (.ireturn, 1) by decide +kernel) rfl (z11 p1 p2)
/-- SoulOfficeModel.fresh(I)Z, from 0 -/
theorem b180_0 (hG : Shp G) {v1 : Int}
    (m0 : TM d 177 [aR 188] (G, c) (fun r h' => T (d + 1) 180 4 [some (aR 188), some (aI v1)] (r.toList ++ []) h' Q)) :
    T (d + 1) 180 0 [some (aR 188), some (aI v1)] [] (G, c) Q := by
  refine e_L (L' := [some (aR 188), some (aI v1)]) (st' := [aR 188]) (show decode (mC 180) 0 = .ok (.aload_n 0, 1) by decide +kernel) rfl (by show (if 188 = 0 then none else some (_, _)) = _; rw [if_neg (by decide)]) ?_
  exact e_V (as := [aR 188]) (rest := []) (show decode (mC 180) 1 = .ok (.invokevirtual 191, 3) by decide +kernel) (by decide +kernel) (show (decide ((1 : Nat) = mA 177) && decide (177 < q_law)) = true by decide +kernel) rfl (show (0 : Nat) ≤ 8 by decide) (show (1 : Nat) ≤ mL 177 by decide +kernel) rfl (sh_ok hG (by decide +kernel)) m0
/-- SoulOfficeModel.fresh(I)Z, from 4 -/
theorem b180_4 (hG : Shp G) {v1 u0 x1 : Int} (hQ : ∀ o o' h', q_eqo o o' → Q o h' → Q o' h')
    (s0 : -2147483648 ≤ u0 ∧ u0 < 2147483648)
    (ex1 : c 191 0 = x1)
    (m2 : (¬ u0 = 0) → TM d 179 [aR 188, aI 14, aI x1] (G, c) (fun r h' => T (d + 1) 180 25 [some (aR 188), some (aI v1)] (r.toList ++ []) h' Q))
    (m3 : (u0 = 0) → TM d 173 [aR 188, aI 1] (G, c) (fun r h' => T (d + 1) 180 12 [none, none] (r.toList ++ []) h' Q)) :
    T (d + 1) 180 4 [some (aR 188), some (aI v1)] [aI u0] (G, c) Q := by
  refine e_ne1 (t := 13) (show decode (mC 180) 4 = .ok (.ifCond .ne 9, 3) by decide +kernel) (by decide) s0 (fun p1 => ?_) (fun p1 => ?_)
  · refine e_L (L' := [some (aR 188), some (aI v1)]) (st' := [aR 188]) (show decode (mC 180) 13 = .ok (.aload_n 0, 1) by decide +kernel) rfl (by show (if 188 = 0 then none else some (_, _)) = _; rw [if_neg (by decide)]) ?_
    refine e_P (st' := [aI 14, aR 188]) (show decode (mC 180) 14 = .ok (.bipush 14, 2) by decide +kernel) rfl rfl rfl ?_
    refine e_L (L' := [some (aR 188), some (aI v1)]) (st' := [aR 188, aI 14, aR 188]) (show decode (mC 180) 16 = .ok (.aload_n 0, 1) by decide +kernel) rfl (by show (if 188 = 0 then none else some (_, _)) = _; rw [if_neg (by decide)]) ?_
    refine e_getR (w := 191) (show decode (mC 180) 17 = .ok (.getfield 37, 3) by decide +kernel) (show pl 12 37 = some (0, 12, 7, 0) by decide +kernel) (by decide) (sh_ok hG (by decide +kernel)) (sh_rf hG (by decide +kernel)) ?_
    refine e_P (st' := [aI 0, aR 191, aI 14, aR 188]) (show decode (mC 180) 20 = .ok (.iconst 0, 1) by decide +kernel) rfl rfl rfl ?_
    refine e_ialdx (n := 168) (show decode (mC 180) 21 = .ok (.iaload, 1) by decide +kernel) (sh_ok hG (by decide +kernel)) (sh_ln hG (by decide +kernel)) (by decide) (by decide) (by decide) ex1 ?_
    exact e_V (as := [aR 188, aI 14, aI x1]) (rest := []) (show decode (mC 180) 22 = .ok (.invokevirtual 195, 3) by decide +kernel) (by decide +kernel) (show (decide ((3 : Nat) = mA 179) && decide (179 < q_law)) = true by decide +kernel) rfl (show (0 : Nat) ≤ 8 by decide) (show (3 : Nat) ≤ mL 179 by decide +kernel) rfl (sh_ok hG (by decide +kernel)) (m2 p1)
  · refine e_L (L' := [some (aR 188), some (aI v1)]) (st' := [aR 188]) (show decode (mC 180) 7 = .ok (.aload_n 0, 1) by decide +kernel) rfl (by show (if 188 = 0 then none else some (_, _)) = _; rw [if_neg (by decide)]) ?_
    refine e_P (st' := [aI 1, aR 188]) (show decode (mC 180) 8 = .ok (.iconst 1, 1) by decide +kernel) rfl rfl rfl ?_
    exact e_V (as := [aR 188, aI 1]) (rest := []) (show decode (mC 180) 9 = .ok (.invokevirtual 178, 3) by decide +kernel) (by decide +kernel) (show (decide ((2 : Nat) = mA 173) && decide (173 < q_law)) = true by decide +kernel) rfl (show (0 : Nat) ≤ 8 by decide) (show (2 : Nat) ≤ mL 173 by decide +kernel) rfl (sh_ok hG (by decide +kernel)) (tm_le hQ (leN (leN leE)) (m3 p1))
/-- SoulOfficeModel.fresh(I)Z, from 12 -/
theorem b180_12 (hG : Shp G) {u0 : Int}
    (s0 : u0 = 0 ∨ u0 = 1)
    (z1 : Q (.inl (some (aI u0))) (G, c)) :
    T (d + 1) 180 12 [none, none] [aI u0] (G, c) Q := by
  exact e_zret (show decode (mC 180) 12 = .ok (.ireturn, 1) by decide +kernel) rfl s0 z1
/-- SoulOfficeModel.fresh(I)Z, from 25 -/
theorem b180_25 (hG : Shp G) {v1 u0 x1 : Int} (hQ : ∀ o o' h', q_eqo o o' → Q o h' → Q o' h')
    (s0 : -2147483648 ≤ u0 ∧ u0 < 2147483648)
    (m1 : (0 ≤ u0) → TM d 173 [aR 188, aI 3] (G, c) (fun r h' => T (d + 1) 180 48 [none, none] (r.toList ++ []) h' Q))
    (ex1 : c 191 1 = x1)
    (m3 : (u0 < 0) → TM d 179 [aR 188, aI 20, aI x1] (G, c) (fun r h' => T (d + 1) 180 40 [some (aR 188), some (aI v1)] (r.toList ++ []) h' Q)) :
    T (d + 1) 180 25 [some (aR 188), some (aI v1)] [aI u0] (G, c) Q := by
  refine e_ge1 (t := 43) (show decode (mC 180) 25 = .ok (.ifCond .ge 18, 3) by decide +kernel) (by decide) s0 (fun p1 => ?_) (fun p1 => ?_)
  · refine e_L (L' := [some (aR 188), some (aI v1)]) (st' := [aR 188]) (show decode (mC 180) 43 = .ok (.aload_n 0, 1) by decide +kernel) rfl (by show (if 188 = 0 then none else some (_, _)) = _; rw [if_neg (by decide)]) ?_
    refine e_P (st' := [aI 3, aR 188]) (show decode (mC 180) 44 = .ok (.iconst 3, 1) by decide +kernel) rfl rfl rfl ?_
    exact e_V (as := [aR 188, aI 3]) (rest := []) (show decode (mC 180) 45 = .ok (.invokevirtual 178, 3) by decide +kernel) (by decide +kernel) (show (decide ((2 : Nat) = mA 173) && decide (173 < q_law)) = true by decide +kernel) rfl (show (0 : Nat) ≤ 8 by decide) (show (2 : Nat) ≤ mL 173 by decide +kernel) rfl (sh_ok hG (by decide +kernel)) (tm_le hQ (leN (leN leE)) (m1 p1))
  · refine e_L (L' := [some (aR 188), some (aI v1)]) (st' := [aR 188]) (show decode (mC 180) 28 = .ok (.aload_n 0, 1) by decide +kernel) rfl (by show (if 188 = 0 then none else some (_, _)) = _; rw [if_neg (by decide)]) ?_
    refine e_P (st' := [aI 20, aR 188]) (show decode (mC 180) 29 = .ok (.bipush 20, 2) by decide +kernel) rfl rfl rfl ?_
    refine e_L (L' := [some (aR 188), some (aI v1)]) (st' := [aR 188, aI 20, aR 188]) (show decode (mC 180) 31 = .ok (.aload_n 0, 1) by decide +kernel) rfl (by show (if 188 = 0 then none else some (_, _)) = _; rw [if_neg (by decide)]) ?_
    refine e_getR (w := 191) (show decode (mC 180) 32 = .ok (.getfield 37, 3) by decide +kernel) (show pl 12 37 = some (0, 12, 7, 0) by decide +kernel) (by decide) (sh_ok hG (by decide +kernel)) (sh_rf hG (by decide +kernel)) ?_
    refine e_P (st' := [aI 1, aR 191, aI 20, aR 188]) (show decode (mC 180) 35 = .ok (.iconst 1, 1) by decide +kernel) rfl rfl rfl ?_
    refine e_ialdx (n := 168) (show decode (mC 180) 36 = .ok (.iaload, 1) by decide +kernel) (sh_ok hG (by decide +kernel)) (sh_ln hG (by decide +kernel)) (by decide) (by decide) (by decide) ex1 ?_
    exact e_V (as := [aR 188, aI 20, aI x1]) (rest := []) (show decode (mC 180) 37 = .ok (.invokevirtual 195, 3) by decide +kernel) (by decide +kernel) (show (decide ((3 : Nat) = mA 179) && decide (179 < q_law)) = true by decide +kernel) rfl (show (0 : Nat) ≤ 8 by decide) (show (3 : Nat) ≤ mL 179 by decide +kernel) rfl (sh_ok hG (by decide +kernel)) (m3 p1)
/-- SoulOfficeModel.fresh(I)Z, from 40 -/
theorem b180_40 (hG : Shp G) {v1 u0 x1 : Int} (hQ : ∀ o o' h', q_eqo o o' → Q o h' → Q o' h')
    (s0 : -2147483648 ≤ u0 ∧ u0 < 2147483648)
    (ex1 : c 188 17 = x1)
    (s2 : (u0 < 0) → 0 ≤ v1)
    (s3 : (u0 < 0) → v1 < 28)
    (m4 : (u0 < 0) → TM d 172 [aR 188] (G, (q_up c 193 v1 x1)) (fun r h' => T (d + 1) 180 63 [none, none] (r.toList ++ []) h' Q))
    (m5 : (0 ≤ u0) → TM d 173 [aR 188, aI 3] (G, c) (fun r h' => T (d + 1) 180 48 [none, none] (r.toList ++ []) h' Q)) :
    T (d + 1) 180 40 [some (aR 188), some (aI v1)] [aI u0] (G, c) Q := by
  refine e_lt1 (t := 49) (show decode (mC 180) 40 = .ok (.ifCond .lt 9, 3) by decide +kernel) (by decide) s0 (fun p1 => ?_) (fun p1 => ?_)
  · refine e_L (L' := [some (aR 188), some (aI v1)]) (st' := [aR 188]) (show decode (mC 180) 49 = .ok (.aload_n 0, 1) by decide +kernel) rfl (by show (if 188 = 0 then none else some (_, _)) = _; rw [if_neg (by decide)]) ?_
    refine e_getR (w := 193) (show decode (mC 180) 50 = .ok (.getfield 43, 3) by decide +kernel) (show pl 12 43 = some (0, 12, 9, 0) by decide +kernel) (by decide) (sh_ok hG (by decide +kernel)) (sh_rf hG (by decide +kernel)) ?_
    refine e_L (L' := [some (aR 188), some (aI v1)]) (st' := [aI v1, aR 193]) (show decode (mC 180) 53 = .ok (.iload_n 1, 1) by decide +kernel) rfl rfl ?_
    refine e_L (L' := [some (aR 188), some (aI v1)]) (st' := [aR 188, aI v1, aR 193]) (show decode (mC 180) 54 = .ok (.aload_n 0, 1) by decide +kernel) rfl (by show (if 188 = 0 then none else some (_, _)) = _; rw [if_neg (by decide)]) ?_
    refine e_getLx (show decode (mC 180) 55 = .ok (.getfield 165, 3) by decide +kernel) (show pl 12 165 = some (0, 12, 17, 0) by decide +kernel) (by decide) (sh_ok hG (by decide +kernel)) ex1 ?_
    refine e_last (n := 28) (show decode (mC 180) 58 = .ok (.lastore, 1) by decide +kernel) (sh_ok hG (by decide +kernel)) (sh_ln hG (by decide +kernel)) (by decide) (s2 p1) (s3 p1) ?_
    refine e_L (L' := [some (aR 188), some (aI v1)]) (st' := [aR 188]) (show decode (mC 180) 59 = .ok (.aload_n 0, 1) by decide +kernel) rfl (by show (if 188 = 0 then none else some (_, _)) = _; rw [if_neg (by decide)]) ?_
    exact e_V (as := [aR 188]) (rest := []) (show decode (mC 180) 60 = .ok (.invokevirtual 181, 3) by decide +kernel) (by decide +kernel) (show (decide ((1 : Nat) = mA 172) && decide (172 < q_law)) = true by decide +kernel) rfl (show (0 : Nat) ≤ 8 by decide) (show (1 : Nat) ≤ mL 172 by decide +kernel) rfl (sh_ok hG (by decide +kernel)) (tm_le hQ (leN (leN leE)) (m4 p1))
  · refine e_L (L' := [some (aR 188), some (aI v1)]) (st' := [aR 188]) (show decode (mC 180) 43 = .ok (.aload_n 0, 1) by decide +kernel) rfl (by show (if 188 = 0 then none else some (_, _)) = _; rw [if_neg (by decide)]) ?_
    refine e_P (st' := [aI 3, aR 188]) (show decode (mC 180) 44 = .ok (.iconst 3, 1) by decide +kernel) rfl rfl rfl ?_
    exact e_V (as := [aR 188, aI 3]) (rest := []) (show decode (mC 180) 45 = .ok (.invokevirtual 178, 3) by decide +kernel) (by decide +kernel) (show (decide ((2 : Nat) = mA 173) && decide (173 < q_law)) = true by decide +kernel) rfl (show (0 : Nat) ≤ 8 by decide) (show (2 : Nat) ≤ mL 173 by decide +kernel) rfl (sh_ok hG (by decide +kernel)) (tm_le hQ (leN (leN leE)) (m5 p1))
/-- SoulOfficeModel.fresh(I)Z, from 48 -/
theorem b180_48 (hG : Shp G) {u0 : Int}
    (s0 : u0 = 0 ∨ u0 = 1)
    (z1 : Q (.inl (some (aI u0))) (G, c)) :
    T (d + 1) 180 48 [none, none] [aI u0] (G, c) Q := by
  exact e_zret (show decode (mC 180) 48 = .ok (.ireturn, 1) by decide +kernel) rfl s0 z1
/-- SoulOfficeModel.fresh(I)Z, from 63 -/
theorem b180_63 (hG : Shp G)
    (z0 : Q (.inl (some (aI 1))) (G, c)) :
    T (d + 1) 180 63 [none, none] [] (G, c) Q := by
  refine e_P (st' := [aI 1]) (show decode (mC 180) 63 = .ok (.iconst 1, 1) by decide +kernel) rfl rfl rfl ?_
  exact e_zret (show decode (mC 180) 64 = .ok (.ireturn, 1) by decide +kernel) rfl (by decide) z0
/-- SoulOfficeModel.looksAt(II)Z, from 0 -/
theorem b181_0 (hG : Shp G) {v1 v2 : Int}
    (m0 : TM d 177 [aR 188] (G, c) (fun r h' => T (d + 1) 181 4 [some (aR 188), some (aI v1), some (aI v2)] (r.toList ++ []) h' Q)) :
    T (d + 1) 181 0 [some (aR 188), some (aI v1), some (aI v2)] [] (G, c) Q := by
  refine e_L (L' := [some (aR 188), some (aI v1), some (aI v2)]) (st' := [aR 188]) (show decode (mC 181) 0 = .ok (.aload_n 0, 1) by decide +kernel) rfl (by show (if 188 = 0 then none else some (_, _)) = _; rw [if_neg (by decide)]) ?_
  exact e_V (as := [aR 188]) (rest := []) (show decode (mC 181) 1 = .ok (.invokevirtual 191, 3) by decide +kernel) (by decide +kernel) (show (decide ((1 : Nat) = mA 177) && decide (177 < q_law)) = true by decide +kernel) rfl (show (0 : Nat) ≤ 8 by decide) (show (1 : Nat) ≤ mL 177 by decide +kernel) rfl (sh_ok hG (by decide +kernel)) m0
/-- SoulOfficeModel.looksAt(II)Z, from 4 -/
theorem b181_4 (hG : Shp G) {v1 v2 u0 : Int} (hQ : ∀ o o' h', q_eqo o o' → Q o h' → Q o' h')
    (s0 : -2147483648 ≤ u0 ∧ u0 < 2147483648)
    (m1 : (¬ u0 = 0) → TM d 179 [aR 188, aI v1, aI v2] (G, c) (fun r h' => T (d + 1) 181 20 [some (aR 188), none, none] (r.toList ++ [aR 188]) h' Q))
    (m2 : (u0 = 0) → TM d 173 [aR 188, aI 1] (G, c) (fun r h' => T (d + 1) 181 12 [none, none, none] (r.toList ++ []) h' Q)) :
    T (d + 1) 181 4 [some (aR 188), some (aI v1), some (aI v2)] [aI u0] (G, c) Q := by
  refine e_ne1 (t := 13) (show decode (mC 181) 4 = .ok (.ifCond .ne 9, 3) by decide +kernel) (by decide) s0 (fun p1 => ?_) (fun p1 => ?_)
  · refine e_L (L' := [some (aR 188), some (aI v1), some (aI v2)]) (st' := [aR 188]) (show decode (mC 181) 13 = .ok (.aload_n 0, 1) by decide +kernel) rfl (by show (if 188 = 0 then none else some (_, _)) = _; rw [if_neg (by decide)]) ?_
    refine e_L (L' := [some (aR 188), some (aI v1), some (aI v2)]) (st' := [aR 188, aR 188]) (show decode (mC 181) 14 = .ok (.aload_n 0, 1) by decide +kernel) rfl (by show (if 188 = 0 then none else some (_, _)) = _; rw [if_neg (by decide)]) ?_
    refine e_L (L' := [some (aR 188), some (aI v1), some (aI v2)]) (st' := [aI v1, aR 188, aR 188]) (show decode (mC 181) 15 = .ok (.iload_n 1, 1) by decide +kernel) rfl rfl ?_
    refine e_L (L' := [some (aR 188), some (aI v1), some (aI v2)]) (st' := [aI v2, aI v1, aR 188, aR 188]) (show decode (mC 181) 16 = .ok (.iload_n 2, 1) by decide +kernel) rfl rfl ?_
    exact e_V (as := [aR 188, aI v1, aI v2]) (rest := [aR 188]) (show decode (mC 181) 17 = .ok (.invokevirtual 195, 3) by decide +kernel) (by decide +kernel) (show (decide ((3 : Nat) = mA 179) && decide (179 < q_law)) = true by decide +kernel) rfl (show (1 : Nat) ≤ 8 by decide) (show (3 : Nat) ≤ mL 179 by decide +kernel) rfl (sh_ok hG (by decide +kernel)) (tm_le hQ (leS (leN (leN leE))) (m1 p1))
  · refine e_L (L' := [some (aR 188), some (aI v1), some (aI v2)]) (st' := [aR 188]) (show decode (mC 181) 7 = .ok (.aload_n 0, 1) by decide +kernel) rfl (by show (if 188 = 0 then none else some (_, _)) = _; rw [if_neg (by decide)]) ?_
    refine e_P (st' := [aI 1, aR 188]) (show decode (mC 181) 8 = .ok (.iconst 1, 1) by decide +kernel) rfl rfl rfl ?_
    exact e_V (as := [aR 188, aI 1]) (rest := []) (show decode (mC 181) 9 = .ok (.invokevirtual 178, 3) by decide +kernel) (by decide +kernel) (show (decide ((2 : Nat) = mA 173) && decide (173 < q_law)) = true by decide +kernel) rfl (show (0 : Nat) ≤ 8 by decide) (show (2 : Nat) ≤ mL 173 by decide +kernel) rfl (sh_ok hG (by decide +kernel)) (tm_le hQ (leN (leN (leN leE))) (m2 p1))
/-- SoulOfficeModel.looksAt(II)Z, from 12 -/
theorem b181_12 (hG : Shp G) {u0 : Int}
    (s0 : u0 = 0 ∨ u0 = 1)
    (z1 : Q (.inl (some (aI u0))) (G, c)) :
    T (d + 1) 181 12 [none, none, none] [aI u0] (G, c) Q := by
  exact e_zret (show decode (mC 181) 12 = .ok (.ireturn, 1) by decide +kernel) rfl s0 z1
/-- SoulOfficeModel.looksAt(II)Z, from 20 -/
theorem b181_20 (hG : Shp G) {u1 x1 : Int} (hQ : ∀ o o' h', q_eqo o o' → Q o h' → Q o' h')
    (ex1 : (q_up c 188 18 u1) 188 18 = x1)
    (s1 : -2147483648 ≤ x1 ∧ x1 < 2147483648)
    (z2 : (0 ≤ x1) → Q (.inl (some (aI 1))) (G, (q_up c 188 18 u1)))
    (m3 : (x1 < 0) → TM d 173 [aR 188, aI 3] (G, (q_up c 188 18 u1)) (fun r h' => T (d + 1) 181 35 [none, none, none] (r.toList ++ []) h' Q)) :
    T (d + 1) 181 20 [some (aR 188), none, none] [aI u1, aR 188] (G, c) Q := by
  refine e_putI (show decode (mC 181) 20 = .ok (.putfield 188, 3) by decide +kernel) (show pl 12 188 = some (0, 12, 18, 0) by decide +kernel) (by decide) (sh_ok hG (by decide +kernel)) ?_
  refine e_L (L' := [some (aR 188), none, none]) (st' := [aR 188]) (show decode (mC 181) 23 = .ok (.aload_n 0, 1) by decide +kernel) rfl (by show (if 188 = 0 then none else some (_, _)) = _; rw [if_neg (by decide)]) ?_
  refine e_getIx (show decode (mC 181) 24 = .ok (.getfield 188, 3) by decide +kernel) (show pl 12 188 = some (0, 12, 18, 0) by decide +kernel) (by decide) (sh_ok hG (by decide +kernel)) ex1 ?_
  refine e_ge1 (t := 38) (show decode (mC 181) 27 = .ok (.ifCond .ge 11, 3) by decide +kernel) (by decide) s1 (fun p1 => ?_) (fun p1 => ?_)
  · refine e_P (st' := [aI 1]) (show decode (mC 181) 38 = .ok (.iconst 1, 1) by decide +kernel) rfl rfl rfl ?_
    refine e_go (t := 43) (show decode (mC 181) 39 = .ok (.goto 4, 3) by decide +kernel) (by decide) ?_
    exact e_zret (show decode (mC 181) 43 = .ok (.ireturn, 1) by decide +kernel) rfl (by decide) (z2 p1)
  · refine e_L (L' := [some (aR 188), none, none]) (st' := [aR 188]) (show decode (mC 181) 30 = .ok (.aload_n 0, 1) by decide +kernel) rfl (by show (if 188 = 0 then none else some (_, _)) = _; rw [if_neg (by decide)]) ?_
    refine e_P (st' := [aI 3, aR 188]) (show decode (mC 181) 31 = .ok (.iconst 3, 1) by decide +kernel) rfl rfl rfl ?_
    exact e_V (as := [aR 188, aI 3]) (rest := []) (show decode (mC 181) 32 = .ok (.invokevirtual 178, 3) by decide +kernel) (by decide +kernel) (show (decide ((2 : Nat) = mA 173) && decide (173 < q_law)) = true by decide +kernel) rfl (show (0 : Nat) ≤ 8 by decide) (show (2 : Nat) ≤ mL 173 by decide +kernel) rfl (sh_ok hG (by decide +kernel)) (tm_le hQ (leN (leS (leS leE))) (m3 p1))
/-- SoulOfficeModel.looksAt(II)Z, from 35 -/
theorem b181_35 (hG : Shp G) {u0 : Int}
    (s0 : -2147483648 ≤ u0 ∧ u0 < 2147483648)
    (z1 : (u0 = 0) → Q (.inl (some (aI 0))) (G, c))
    (z2 : (¬ u0 = 0) → Q (.inl (some (aI 1))) (G, c)) :
    T (d + 1) 181 35 [none, none, none] [aI u0] (G, c) Q := by
  refine e_eq1 (t := 42) (show decode (mC 181) 35 = .ok (.ifCond .eq 7, 3) by decide +kernel) (by decide) s0 (fun p1 => ?_) (fun p1 => ?_)
  · refine e_P (st' := [aI 0]) (show decode (mC 181) 42 = .ok (.iconst 0, 1) by decide +kernel) rfl rfl rfl ?_
    exact e_zret (show decode (mC 181) 43 = .ok (.ireturn, 1) by decide +kernel) rfl (by decide) (z1 p1)
  · refine e_P (st' := [aI 1]) (show decode (mC 181) 38 = .ok (.iconst 1, 1) by decide +kernel) rfl rfl rfl ?_
    refine e_go (t := 43) (show decode (mC 181) 39 = .ok (.goto 4, 3) by decide +kernel) (by decide) ?_
    exact e_zret (show decode (mC 181) 43 = .ok (.ireturn, 1) by decide +kernel) rfl (by decide) (z2 p1)
/-- SoulOfficeModel.looksAtKind()Z, from 0 -/
theorem b182_0 (hG : Shp G) {x1 : Int} (hQ : ∀ o o' h', q_eqo o o' → Q o h' → Q o' h')
    (ex1 : c 191 0 = x1)
    (m1 : TM d 181 [aR 188, aI 14, aI x1] (G, c) (fun r h' => T (d + 1) 182 12 [none] (r.toList ++ []) h' Q)) :
    T (d + 1) 182 0 [some (aR 188)] [] (G, c) Q := by
  refine e_L (L' := [some (aR 188)]) (st' := [aR 188]) (show decode (mC 182) 0 = .ok (.aload_n 0, 1) by decide +kernel) rfl (by show (if 188 = 0 then none else some (_, _)) = _; rw [if_neg (by decide)]) ?_
  refine e_P (st' := [aI 14, aR 188]) (show decode (mC 182) 1 = .ok (.bipush 14, 2) by decide +kernel) rfl rfl rfl ?_
  refine e_L (L' := [some (aR 188)]) (st' := [aR 188, aI 14, aR 188]) (show decode (mC 182) 3 = .ok (.aload_n 0, 1) by decide +kernel) rfl (by show (if 188 = 0 then none else some (_, _)) = _; rw [if_neg (by decide)]) ?_
  refine e_getR (w := 191) (show decode (mC 182) 4 = .ok (.getfield 37, 3) by decide +kernel) (show pl 12 37 = some (0, 12, 7, 0) by decide +kernel) (by decide) (sh_ok hG (by decide +kernel)) (sh_rf hG (by decide +kernel)) ?_
  refine e_P (st' := [aI 0, aR 191, aI 14, aR 188]) (show decode (mC 182) 7 = .ok (.iconst 0, 1) by decide +kernel) rfl rfl rfl ?_
  refine e_ialdx (n := 168) (show decode (mC 182) 8 = .ok (.iaload, 1) by decide +kernel) (sh_ok hG (by decide +kernel)) (sh_ln hG (by decide +kernel)) (by decide) (by decide) (by decide) ex1 ?_
  exact e_V (as := [aR 188, aI 14, aI x1]) (rest := []) (show decode (mC 182) 9 = .ok (.invokevirtual 199, 3) by decide +kernel) (by decide +kernel) (show (decide ((3 : Nat) = mA 181) && decide (181 < q_law)) = true by decide +kernel) rfl (show (0 : Nat) ≤ 8 by decide) (show (3 : Nat) ≤ mL 181 by decide +kernel) rfl (sh_ok hG (by decide +kernel)) (tm_le hQ (leN leE) m1)
/-- SoulOfficeModel.looksAtKind()Z, from 12 -/
theorem b182_12 (hG : Shp G) {u0 : Int}
    (s0 : u0 = 0 ∨ u0 = 1)
    (z1 : Q (.inl (some (aI u0))) (G, c)) :
    T (d + 1) 182 12 [none] [aI u0] (G, c) Q := by
  exact e_zret (show decode (mC 182) 12 = .ok (.ireturn, 1) by decide +kernel) rfl s0 z1
/-- SoulOfficeModel.looksAtSoul()Z, from 0 -/
theorem b183_0 (hG : Shp G) {x1 : Int} (hQ : ∀ o o' h', q_eqo o o' → Q o h' → Q o' h')
    (ex1 : c 191 1 = x1)
    (m1 : TM d 181 [aR 188, aI 20, aI x1] (G, c) (fun r h' => T (d + 1) 183 12 [none] (r.toList ++ []) h' Q)) :
    T (d + 1) 183 0 [some (aR 188)] [] (G, c) Q := by
  refine e_L (L' := [some (aR 188)]) (st' := [aR 188]) (show decode (mC 183) 0 = .ok (.aload_n 0, 1) by decide +kernel) rfl (by show (if 188 = 0 then none else some (_, _)) = _; rw [if_neg (by decide)]) ?_
  refine e_P (st' := [aI 20, aR 188]) (show decode (mC 183) 1 = .ok (.bipush 20, 2) by decide +kernel) rfl rfl rfl ?_
  refine e_L (L' := [some (aR 188)]) (st' := [aR 188, aI 20, aR 188]) (show decode (mC 183) 3 = .ok (.aload_n 0, 1) by decide +kernel) rfl (by show (if 188 = 0 then none else some (_, _)) = _; rw [if_neg (by decide)]) ?_
  refine e_getR (w := 191) (show decode (mC 183) 4 = .ok (.getfield 37, 3) by decide +kernel) (show pl 12 37 = some (0, 12, 7, 0) by decide +kernel) (by decide) (sh_ok hG (by decide +kernel)) (sh_rf hG (by decide +kernel)) ?_
  refine e_P (st' := [aI 1, aR 191, aI 20, aR 188]) (show decode (mC 183) 7 = .ok (.iconst 1, 1) by decide +kernel) rfl rfl rfl ?_
  refine e_ialdx (n := 168) (show decode (mC 183) 8 = .ok (.iaload, 1) by decide +kernel) (sh_ok hG (by decide +kernel)) (sh_ln hG (by decide +kernel)) (by decide) (by decide) (by decide) ex1 ?_
  exact e_V (as := [aR 188, aI 20, aI x1]) (rest := []) (show decode (mC 183) 9 = .ok (.invokevirtual 199, 3) by decide +kernel) (by decide +kernel) (show (decide ((3 : Nat) = mA 181) && decide (181 < q_law)) = true by decide +kernel) rfl (show (0 : Nat) ≤ 8 by decide) (show (3 : Nat) ≤ mL 181 by decide +kernel) rfl (sh_ok hG (by decide +kernel)) (tm_le hQ (leN leE) m1)
/-- SoulOfficeModel.looksAtSoul()Z, from 12 -/
theorem b183_12 (hG : Shp G) {u0 : Int}
    (s0 : u0 = 0 ∨ u0 = 1)
    (z1 : Q (.inl (some (aI u0))) (G, c)) :
    T (d + 1) 183 12 [none] [aI u0] (G, c) Q := by
  exact e_zret (show decode (mC 183) 12 = .ok (.ireturn, 1) by decide +kernel) rfl s0 z1
/-- SoulOfficeModel.line()Z, from 0 -/
theorem b184_0 (hG : Shp G)
    (m0 : TM d 174 [aR 188, aL 1802071652] (G, c) (fun r h' => T (d + 1) 184 7 [some (aR 188), none, none] (r.toList ++ []) h' Q)) :
    T (d + 1) 184 0 [some (aR 188), none, none] [] (G, c) Q := by
  refine e_L (L' := [some (aR 188), none, none]) (st' := [aR 188]) (show decode (mC 184) 0 = .ok (.aload_n 0, 1) by decide +kernel) rfl (by show (if 188 = 0 then none else some (_, _)) = _; rw [if_neg (by decide)]) ?_
  refine e_ldc2 (show decode (mC 184) 1 = .ok (.ldc2_w 102, 3) by decide +kernel) (show pl 12 102 = some (9, 0, 0, 1802071652) by decide +kernel) ?_
  exact e_V (as := [aR 188, aL 1802071652]) (rest := []) (show decode (mC 184) 4 = .ok (.invokevirtual 203, 3) by decide +kernel) (by decide +kernel) (show (decide ((2 : Nat) = mA 174) && decide (174 < q_law)) = true by decide +kernel) rfl (show (0 : Nat) ≤ 8 by decide) (show (3 : Nat) ≤ mL 174 by decide +kernel) rfl (sh_ok hG (by decide +kernel)) m0
/-- SoulOfficeModel.line()Z, from 7 -/
theorem b184_7 (hG : Shp G) {u0 x1 : Int} (hQ : ∀ o o' h', q_eqo o o' → Q o h' → Q o' h')
    (s0 : -2147483648 ≤ u0 ∧ u0 < 2147483648)
    (m1 : (u0 = 0) → TM d 174 [aR 188, aL 469852583027] (G, c) (fun r h' => T (d + 1) 184 114 [some (aR 188), none, none] (r.toList ++ []) h' Q))
    (ex1 : c 191 0 = x1)
    (s3 : (¬ u0 = 0) → -2147483648 ≤ x1 ∧ x1 < 2147483648)
    (m4 : (¬ u0 = 0) → (¬ x1 = 6) → TM d 172 [aR 188] (G, c) (fun r h' => T (d + 1) 184 33 [some (aR 188), some (aI x1), none] (r.toList ++ []) h' Q))
    (m5 : (¬ u0 = 0) → (x1 = 6) → TM d 173 [aR 188, aI 4] (G, c) (fun r h' => T (d + 1) 184 28 [none, none, none] (r.toList ++ []) h' Q)) :
    T (d + 1) 184 7 [some (aR 188), none, none] [aI u0] (G, c) Q := by
  refine e_eq1 (t := 107) (show decode (mC 184) 7 = .ok (.ifCond .eq 100, 3) by decide +kernel) (by decide) s0 (fun p1 => ?_) (fun p1 => ?_)
  · refine e_L (L' := [some (aR 188), none, none]) (st' := [aR 188]) (show decode (mC 184) 107 = .ok (.aload_n 0, 1) by decide +kernel) rfl (by show (if 188 = 0 then none else some (_, _)) = _; rw [if_neg (by decide)]) ?_
    refine e_ldc2 (show decode (mC 184) 108 = .ok (.ldc2_w 104, 3) by decide +kernel) (show pl 12 104 = some (9, 0, 0, 469852583027) by decide +kernel) ?_
    exact e_V (as := [aR 188, aL 469852583027]) (rest := []) (show decode (mC 184) 111 = .ok (.invokevirtual 203, 3) by decide +kernel) (by decide +kernel) (show (decide ((2 : Nat) = mA 174) && decide (174 < q_law)) = true by decide +kernel) rfl (show (0 : Nat) ≤ 8 by decide) (show (3 : Nat) ≤ mL 174 by decide +kernel) rfl (sh_ok hG (by decide +kernel)) (m1 p1)
  · refine e_L (L' := [some (aR 188), none, none]) (st' := [aR 188]) (show decode (mC 184) 10 = .ok (.aload_n 0, 1) by decide +kernel) rfl (by show (if 188 = 0 then none else some (_, _)) = _; rw [if_neg (by decide)]) ?_
    refine e_getR (w := 191) (show decode (mC 184) 11 = .ok (.getfield 37, 3) by decide +kernel) (show pl 12 37 = some (0, 12, 7, 0) by decide +kernel) (by decide) (sh_ok hG (by decide +kernel)) (sh_rf hG (by decide +kernel)) ?_
    refine e_P (st' := [aI 0, aR 191]) (show decode (mC 184) 14 = .ok (.iconst 0, 1) by decide +kernel) rfl rfl rfl ?_
    refine e_ialdx (n := 168) (show decode (mC 184) 15 = .ok (.iaload, 1) by decide +kernel) (sh_ok hG (by decide +kernel)) (sh_ln hG (by decide +kernel)) (by decide) (by decide) (by decide) ex1 ?_
    refine e_L (L' := [some (aR 188), some (aI x1), none]) (st' := []) (show decode (mC 184) 16 = .ok (.istore_n 1, 1) by decide +kernel) rfl rfl ?_
    refine e_L (L' := [some (aR 188), some (aI x1), none]) (st' := [aI x1]) (show decode (mC 184) 17 = .ok (.iload_n 1, 1) by decide +kernel) rfl rfl ?_
    refine e_P (st' := [aI 6, aI x1]) (show decode (mC 184) 18 = .ok (.bipush 6, 2) by decide +kernel) rfl rfl rfl ?_
    refine e_ne2 (t := 29) (show decode (mC 184) 20 = .ok (.if_icmp .ne 9, 3) by decide +kernel) (by decide) (s3 p1) (by decide) (fun p2 => ?_) (fun p2 => ?_)
    · refine e_L (L' := [some (aR 188), some (aI x1), none]) (st' := [aR 188]) (show decode (mC 184) 29 = .ok (.aload_n 0, 1) by decide +kernel) rfl (by show (if 188 = 0 then none else some (_, _)) = _; rw [if_neg (by decide)]) ?_
      exact e_V (as := [aR 188]) (rest := []) (show decode (mC 184) 30 = .ok (.invokevirtual 181, 3) by decide +kernel) (by decide +kernel) (show (decide ((1 : Nat) = mA 172) && decide (172 < q_law)) = true by decide +kernel) rfl (show (0 : Nat) ≤ 8 by decide) (show (1 : Nat) ≤ mL 172 by decide +kernel) rfl (sh_ok hG (by decide +kernel)) (m4 p1 p2)
    · refine e_L (L' := [some (aR 188), some (aI x1), none]) (st' := [aR 188]) (show decode (mC 184) 23 = .ok (.aload_n 0, 1) by decide +kernel) rfl (by show (if 188 = 0 then none else some (_, _)) = _; rw [if_neg (by decide)]) ?_
      refine e_P (st' := [aI 4, aR 188]) (show decode (mC 184) 24 = .ok (.iconst 4, 1) by decide +kernel) rfl rfl rfl ?_
      exact e_V (as := [aR 188, aI 4]) (rest := []) (show decode (mC 184) 25 = .ok (.invokevirtual 178, 3) by decide +kernel) (by decide +kernel) (show (decide ((2 : Nat) = mA 173) && decide (173 < q_law)) = true by decide +kernel) rfl (show (0 : Nat) ≤ 8 by decide) (show (2 : Nat) ≤ mL 173 by decide +kernel) rfl (sh_ok hG (by decide +kernel)) (tm_le hQ (leN (leN (leS leE))) (m5 p1 p2))
/-- SoulOfficeModel.line()Z, from 28 -/
theorem b184_28 (hG : Shp G) {u0 : Int}
    (s0 : u0 = 0 ∨ u0 = 1)
    (z1 : Q (.inl (some (aI u0))) (G, c)) :
    T (d + 1) 184 28 [none, none, none] [aI u0] (G, c) Q := by
  exact e_zret (show decode (mC 184) 28 = .ok (.ireturn, 1) by decide +kernel) rfl s0 z1
/-- SoulOfficeModel.line()Z, from 33 -/
theorem b184_33 (hG : Shp G) {v1 : Int}
    (m0 : TM d 180 [aR 188, aI (14 + v1)] (G, c) (fun r h' => T (d + 1) 184 41 [some (aR 188), some (aI v1), none] (r.toList ++ []) h' Q)) :
    T (d + 1) 184 33 [some (aR 188), some (aI v1), none] [] (G, c) Q := by
  refine e_L (L' := [some (aR 188), some (aI v1), none]) (st' := [aR 188]) (show decode (mC 184) 33 = .ok (.aload_n 0, 1) by decide +kernel) rfl (by show (if 188 = 0 then none else some (_, _)) = _; rw [if_neg (by decide)]) ?_
  refine e_P (st' := [aI 14, aR 188]) (show decode (mC 184) 34 = .ok (.bipush 14, 2) by decide +kernel) rfl rfl rfl ?_
  refine e_L (L' := [some (aR 188), some (aI v1), none]) (st' := [aI v1, aI 14, aR 188]) (show decode (mC 184) 36 = .ok (.iload_n 1, 1) by decide +kernel) rfl rfl ?_
  refine e_P (st' := [aI (14 + v1), aR 188]) (show decode (mC 184) 37 = .ok (.iadd, 1) by decide +kernel) rfl rfl rfl ?_
  exact e_V (as := [aR 188, aI (14 + v1)]) (rest := []) (show decode (mC 184) 38 = .ok (.invokevirtual 207, 3) by decide +kernel) (by decide +kernel) (show (decide ((2 : Nat) = mA 180) && decide (180 < q_law)) = true by decide +kernel) rfl (show (0 : Nat) ≤ 8 by decide) (show (2 : Nat) ≤ mL 180 by decide +kernel) rfl (sh_ok hG (by decide +kernel)) m0
/-- SoulOfficeModel.line()Z, from 41 -/
theorem b184_41 (hG : Shp G) {v1 u0 : Int}
    (s0 : -2147483648 ≤ u0 ∧ u0 < 2147483648)
    (m1 : (¬ u0 = 0) → TM d 178 [aR 188, aI 1, aI 60] (G, c) (fun r h' => T (d + 1) 184 53 [some (aR 188), some (aI v1), none] (r.toList ++ []) h' Q))
    (z2 : (u0 = 0) → Q (.inl (some (aI 0))) (G, c)) :
    T (d + 1) 184 41 [some (aR 188), some (aI v1), none] [aI u0] (G, c) Q := by
  refine e_ne1 (t := 46) (show decode (mC 184) 41 = .ok (.ifCond .ne 5, 3) by decide +kernel) (by decide) s0 (fun p1 => ?_) (fun p1 => ?_)
  · refine e_L (L' := [some (aR 188), some (aI v1), none]) (st' := [aR 188]) (show decode (mC 184) 46 = .ok (.aload_n 0, 1) by decide +kernel) rfl (by show (if 188 = 0 then none else some (_, _)) = _; rw [if_neg (by decide)]) ?_
    refine e_P (st' := [aI 1, aR 188]) (show decode (mC 184) 47 = .ok (.iconst 1, 1) by decide +kernel) rfl rfl rfl ?_
    refine e_P (st' := [aI 60, aI 1, aR 188]) (show decode (mC 184) 48 = .ok (.bipush 60, 2) by decide +kernel) rfl rfl rfl ?_
    exact e_V (as := [aR 188, aI 1, aI 60]) (rest := []) (show decode (mC 184) 50 = .ok (.invokevirtual 210, 3) by decide +kernel) (by decide +kernel) (show (decide ((3 : Nat) = mA 178) && decide (178 < q_law)) = true by decide +kernel) rfl (show (0 : Nat) ≤ 8 by decide) (show (3 : Nat) ≤ mL 178 by decide +kernel) rfl (sh_ok hG (by decide +kernel)) (m1 p1)
  · refine e_P (st' := [aI 0]) (show decode (mC 184) 44 = .ok (.iconst 0, 1) by decide +kernel) rfl rfl rfl ?_
    exact e_zret (show decode (mC 184) 45 = .ok (.ireturn, 1) by decide +kernel) rfl (by decide) (z2 p1)
/-- SoulOfficeModel.line()Z, from 53 -/
theorem b184_53 (hG : Shp G) {v1 u0 x1 : Int}
    (s0 : -2147483648 ≤ u0 ∧ u0 < 2147483648)
    (ex1 : c 188 18 = x1)
    (s2 : (¬ u0 = 0) → 0 ≤ (3 + v1))
    (s3 : (¬ u0 = 0) → (3 + v1) < 168)
    (m4 : (¬ u0 = 0) → TM d 178 [aR 188, aI 1, aI 9] (G, (q_up c 191 (3 + v1) x1)) (fun r h' => T (d + 1) 184 77 [some (aR 188), some (aI v1), none] (r.toList ++ []) h' Q))
    (z5 : (u0 = 0) → Q (.inl (some (aI 0))) (G, c)) :
    T (d + 1) 184 53 [some (aR 188), some (aI v1), none] [aI u0] (G, c) Q := by
  refine e_ne1 (t := 58) (show decode (mC 184) 53 = .ok (.ifCond .ne 5, 3) by decide +kernel) (by decide) s0 (fun p1 => ?_) (fun p1 => ?_)
  · refine e_L (L' := [some (aR 188), some (aI v1), none]) (st' := [aR 188]) (show decode (mC 184) 58 = .ok (.aload_n 0, 1) by decide +kernel) rfl (by show (if 188 = 0 then none else some (_, _)) = _; rw [if_neg (by decide)]) ?_
    refine e_getR (w := 191) (show decode (mC 184) 59 = .ok (.getfield 37, 3) by decide +kernel) (show pl 12 37 = some (0, 12, 7, 0) by decide +kernel) (by decide) (sh_ok hG (by decide +kernel)) (sh_rf hG (by decide +kernel)) ?_
    refine e_P (st' := [aI 3, aR 191]) (show decode (mC 184) 62 = .ok (.iconst 3, 1) by decide +kernel) rfl rfl rfl ?_
    refine e_L (L' := [some (aR 188), some (aI v1), none]) (st' := [aI v1, aI 3, aR 191]) (show decode (mC 184) 63 = .ok (.iload_n 1, 1) by decide +kernel) rfl rfl ?_
    refine e_P (st' := [aI (3 + v1), aR 191]) (show decode (mC 184) 64 = .ok (.iadd, 1) by decide +kernel) rfl rfl rfl ?_
    refine e_L (L' := [some (aR 188), some (aI v1), none]) (st' := [aR 188, aI (3 + v1), aR 191]) (show decode (mC 184) 65 = .ok (.aload_n 0, 1) by decide +kernel) rfl (by show (if 188 = 0 then none else some (_, _)) = _; rw [if_neg (by decide)]) ?_
    refine e_getIx (show decode (mC 184) 66 = .ok (.getfield 188, 3) by decide +kernel) (show pl 12 188 = some (0, 12, 18, 0) by decide +kernel) (by decide) (sh_ok hG (by decide +kernel)) ex1 ?_
    refine e_iast (n := 168) (show decode (mC 184) 69 = .ok (.iastore, 1) by decide +kernel) (sh_ok hG (by decide +kernel)) (sh_ln hG (by decide +kernel)) (by decide) (s2 p1) (s3 p1) ?_
    refine e_L (L' := [some (aR 188), some (aI v1), none]) (st' := [aR 188]) (show decode (mC 184) 70 = .ok (.aload_n 0, 1) by decide +kernel) rfl (by show (if 188 = 0 then none else some (_, _)) = _; rw [if_neg (by decide)]) ?_
    refine e_P (st' := [aI 1, aR 188]) (show decode (mC 184) 71 = .ok (.iconst 1, 1) by decide +kernel) rfl rfl rfl ?_
    refine e_P (st' := [aI 9, aI 1, aR 188]) (show decode (mC 184) 72 = .ok (.bipush 9, 2) by decide +kernel) rfl rfl rfl ?_
    exact e_V (as := [aR 188, aI 1, aI 9]) (rest := []) (show decode (mC 184) 74 = .ok (.invokevirtual 210, 3) by decide +kernel) (by decide +kernel) (show (decide ((3 : Nat) = mA 178) && decide (178 < q_law)) = true by decide +kernel) rfl (show (0 : Nat) ≤ 8 by decide) (show (3 : Nat) ≤ mL 178 by decide +kernel) rfl (sh_ok hG (by decide +kernel)) (m4 p1)
  · refine e_P (st' := [aI 0]) (show decode (mC 184) 56 = .ok (.iconst 0, 1) by decide +kernel) rfl rfl rfl ?_
    exact e_zret (show decode (mC 184) 57 = .ok (.ireturn, 1) by decide +kernel) rfl (by decide) (z5 p1)
end QB23
