section QB26
variable {d : Nat} {G : GG} {c : CC} {Q : OO → HH → Prop}
/-- SoulOfficeModel.debt(II)I, from 18 -/
theorem b195_18 (hG : Shp G) {v1 v2 u0 x1 : Int}
    (s0 : -2147483648 ≤ u0 ∧ u0 < 2147483648)
    (z1 : (u0 = 0) → Q (.inl (some (aI (-1)))) (G, c))
    (s2 : (¬ u0 = 0) → 0 ≤ ((205 + (8 * v1)) + v2))
    (s3 : (¬ u0 = 0) → ((205 + (8 * v1)) + v2) < 514)
    (ex1 : c 190 ((205 + (8 * v1)) + v2) = x1)
    (z5 : (¬ u0 = 0) → Q (.inl (some (aI x1))) (G, c)) :
    T (d + 1) 195 18 [some (aR 188), some (aI v1), some (aI v2)] [aI u0] (G, c) Q := by
  refine e_eq1 (t := 39) (show decode (mC 195) 18 = .ok (.ifCond .eq 21, 3) by decide +kernel) (by decide) s0 (fun p1 => ?_) (fun p1 => ?_)
  · refine e_P (st' := [aI (-1)]) (show decode (mC 195) 39 = .ok (.iconst (-1), 1) by decide +kernel) rfl rfl rfl ?_
    exact e_iret (show decode (mC 195) 40 = .ok (.ireturn, 1) by decide +kernel) rfl (z1 p1)
  · refine e_L (L' := [some (aR 188), some (aI v1), some (aI v2)]) (st' := [aR 188]) (show decode (mC 195) 21 = .ok (.aload_n 0, 1) by decide +kernel) rfl (by show (if 188 = 0 then none else some (_, _)) = _; rw [if_neg (by decide)]) ?_
    refine e_getR (w := 190) (show decode (mC 195) 22 = .ok (.getfield 33, 3) by decide +kernel) (show pl 12 33 = some (0, 12, 6, 0) by decide +kernel) (by decide) (sh_ok hG (by decide +kernel)) (sh_rf hG (by decide +kernel)) ?_
    refine e_P (st' := [aI 205, aR 190]) (show decode (mC 195) 25 = .ok (.sipush 205, 3) by decide +kernel) rfl rfl rfl ?_
    refine e_P (st' := [aI 8, aI 205, aR 190]) (show decode (mC 195) 28 = .ok (.bipush 8, 2) by decide +kernel) rfl rfl rfl ?_
    refine e_L (L' := [some (aR 188), some (aI v1), some (aI v2)]) (st' := [aI v1, aI 8, aI 205, aR 190]) (show decode (mC 195) 30 = .ok (.iload_n 1, 1) by decide +kernel) rfl rfl ?_
    refine e_P (st' := [aI (8 * v1), aI 205, aR 190]) (show decode (mC 195) 31 = .ok (.imul, 1) by decide +kernel) rfl rfl rfl ?_
    refine e_P (st' := [aI (205 + (8 * v1)), aR 190]) (show decode (mC 195) 32 = .ok (.iadd, 1) by decide +kernel) rfl rfl rfl ?_
    refine e_L (L' := [some (aR 188), some (aI v1), some (aI v2)]) (st' := [aI v2, aI (205 + (8 * v1)), aR 190]) (show decode (mC 195) 33 = .ok (.iload_n 2, 1) by decide +kernel) rfl rfl ?_
    refine e_P (st' := [aI ((205 + (8 * v1)) + v2), aR 190]) (show decode (mC 195) 34 = .ok (.iadd, 1) by decide +kernel) rfl rfl rfl ?_
    refine e_ialdx (n := 514) (show decode (mC 195) 35 = .ok (.iaload, 1) by decide +kernel) (sh_ok hG (by decide +kernel)) (sh_ln hG (by decide +kernel)) (by decide) (s2 p1) (s3 p1) ex1 ?_
    refine e_go (t := 40) (show decode (mC 195) 36 = .ok (.goto 4, 3) by decide +kernel) (by decide) ?_
    exact e_iret (show decode (mC 195) 40 = .ok (.ireturn, 1) by decide +kernel) rfl (z5 p1)
/-- SoulOfficeModel.all()I, from 0 -/
theorem b196_0 (hG : Shp G)
    (k0 : T (d + 1) 196 4 [some (aR 188), some (aI 0), some (aI 0)] [] (G, c) Q) :
    T (d + 1) 196 0 [some (aR 188), none, none] [] (G, c) Q := by
  refine e_P (st' := [aI 0]) (show decode (mC 196) 0 = .ok (.iconst 0, 1) by decide +kernel) rfl rfl rfl ?_
  refine e_L (L' := [some (aR 188), some (aI 0), none]) (st' := []) (show decode (mC 196) 1 = .ok (.istore_n 1, 1) by decide +kernel) rfl rfl ?_
  refine e_P (st' := [aI 0]) (show decode (mC 196) 2 = .ok (.iconst 0, 1) by decide +kernel) rfl rfl rfl ?_
  refine e_L (L' := [some (aR 188), some (aI 0), some (aI 0)]) (st' := []) (show decode (mC 196) 3 = .ok (.istore_n 2, 1) by decide +kernel) rfl rfl ?_
  exact k0
/-- SoulOfficeModel.all()I, from 4 -/
theorem b196_4 (hG : Shp G) {v1 v2 : Int} (hQ : ∀ o o' h', q_eqo o o' → Q o h' → Q o' h')
    (s0 : -2147483648 ≤ v2 ∧ v2 < 2147483648)
    (z1 : (8 ≤ v2) → Q (.inl (some (aI v1))) (G, c))
    (m2 : (v2 < 8) → TM d 192 [aR 188, aI v2] (G, c) (fun r h' => T (d + 1) 196 16 [some (aR 188), none, some (aI v2)] (r.toList ++ [aI v1]) h' Q)) :
    T (d + 1) 196 4 [some (aR 188), some (aI v1), some (aI v2)] [] (G, c) Q := by
  refine e_L (L' := [some (aR 188), some (aI v1), some (aI v2)]) (st' := [aI v2]) (show decode (mC 196) 4 = .ok (.iload_n 2, 1) by decide +kernel) rfl rfl ?_
  refine e_P (st' := [aI 8, aI v2]) (show decode (mC 196) 5 = .ok (.bipush 8, 2) by decide +kernel) rfl rfl rfl ?_
  refine e_ge2 (t := 24) (show decode (mC 196) 7 = .ok (.if_icmp .ge 17, 3) by decide +kernel) (by decide) s0 (by decide) (fun p1 => ?_) (fun p1 => ?_)
  · refine e_L (L' := [some (aR 188), some (aI v1), some (aI v2)]) (st' := [aI v1]) (show decode (mC 196) 24 = .ok (.iload_n 1, 1) by decide +kernel) rfl rfl ?_
    exact e_iret (show decode (mC 196) 25 = .ok (.ireturn, 1) by decide +kernel) rfl (z1 p1)
  · refine e_L (L' := [some (aR 188), some (aI v1), some (aI v2)]) (st' := [aI v1]) (show decode (mC 196) 10 = .ok (.iload_n 1, 1) by decide +kernel) rfl rfl ?_
    refine e_L (L' := [some (aR 188), some (aI v1), some (aI v2)]) (st' := [aR 188, aI v1]) (show decode (mC 196) 11 = .ok (.aload_n 0, 1) by decide +kernel) rfl (by show (if 188 = 0 then none else some (_, _)) = _; rw [if_neg (by decide)]) ?_
    refine e_L (L' := [some (aR 188), some (aI v1), some (aI v2)]) (st' := [aI v2, aR 188, aI v1]) (show decode (mC 196) 12 = .ok (.iload_n 2, 1) by decide +kernel) rfl rfl ?_
    exact e_V (as := [aR 188, aI v2]) (rest := [aI v1]) (show decode (mC 196) 13 = .ok (.invokevirtual 255, 3) by decide +kernel) (by decide +kernel) (show (decide ((2 : Nat) = mA 192) && decide (192 < q_law)) = true by decide +kernel) rfl (show (1 : Nat) ≤ 8 by decide) (show (2 : Nat) ≤ mL 192 by decide +kernel) rfl (sh_ok hG (by decide +kernel)) (tm_le hQ (leS (leN (leS leE))) (m2 p1))
/-- SoulOfficeModel.all()I, from 16 -/
theorem b196_16 (hG : Shp G) {v2 u0 u1 : Int}
    (k0 : T (d + 1) 196 4 [some (aR 188), some (aI (u0 + u1)), some (aI (v2 + 1))] [] (G, c) Q) :
    T (d + 1) 196 16 [some (aR 188), none, some (aI v2)] [aI u1, aI u0] (G, c) Q := by
  refine e_P (st' := [aI (u0 + u1)]) (show decode (mC 196) 16 = .ok (.iadd, 1) by decide +kernel) rfl rfl rfl ?_
  refine e_L (L' := [some (aR 188), some (aI (u0 + u1)), some (aI v2)]) (st' := []) (show decode (mC 196) 17 = .ok (.istore_n 1, 1) by decide +kernel) rfl rfl ?_
  refine e_L (L' := [some (aR 188), some (aI (u0 + u1)), some (aI (v2 + 1))]) (st' := []) (show decode (mC 196) 18 = .ok (.iinc 2 1, 3) by decide +kernel) rfl rfl ?_
  refine e_go (t := 4) (show decode (mC 196) 21 = .ok (.goto (-17), 3) by decide +kernel) (by decide) ?_
  exact k0
/-- SoulOfficeModel.now(I)I, from 0 -/
theorem b197_0 (hG : Shp G) {v1 : Int}
    (k0 : T (d + 1) 197 12 [some (aR 188), some (aI v1), some (aI 0), some (aI 0), some (aI 0)] [] (G, (q_up c 188 0 0)) Q) :
    T (d + 1) 197 0 [some (aR 188), some (aI v1), none, none, none] [] (G, c) Q := by
  refine e_L (L' := [some (aR 188), some (aI v1), none, none, none]) (st' := [aR 188]) (show decode (mC 197) 0 = .ok (.aload_n 0, 1) by decide +kernel) rfl (by show (if 188 = 0 then none else some (_, _)) = _; rw [if_neg (by decide)]) ?_
  refine e_P (st' := [aI 0, aR 188]) (show decode (mC 197) 1 = .ok (.iconst 0, 1) by decide +kernel) rfl rfl rfl ?_
  refine e_putI (show decode (mC 197) 2 = .ok (.putfield 1, 3) by decide +kernel) (show pl 12 1 = some (0, 12, 0, 0) by decide +kernel) (by decide) (sh_ok hG (by decide +kernel)) ?_
  refine e_P (st' := [aI 0]) (show decode (mC 197) 5 = .ok (.iconst 0, 1) by decide +kernel) rfl rfl rfl ?_
  refine e_L (L' := [some (aR 188), some (aI v1), some (aI 0), none, none]) (st' := []) (show decode (mC 197) 6 = .ok (.istore_n 2, 1) by decide +kernel) rfl rfl ?_
  refine e_P (st' := [aI 0]) (show decode (mC 197) 7 = .ok (.iconst 0, 1) by decide +kernel) rfl rfl rfl ?_
  refine e_L (L' := [some (aR 188), some (aI v1), some (aI 0), some (aI 0), none]) (st' := []) (show decode (mC 197) 8 = .ok (.istore_n 3, 1) by decide +kernel) rfl rfl ?_
  refine e_P (st' := [aI 0]) (show decode (mC 197) 9 = .ok (.iconst 0, 1) by decide +kernel) rfl rfl rfl ?_
  refine e_L (L' := [some (aR 188), some (aI v1), some (aI 0), some (aI 0), some (aI 0)]) (st' := []) (show decode (mC 197) 10 = .ok (.istore 4, 2) by decide +kernel) rfl rfl ?_
  exact k0
/-- SoulOfficeModel.now(I)I, from 12 -/
theorem b197_12 (hG : Shp G) {v1 v2 v3 v4 x1 x2 : Int}
    (ex1 : c 190 1 = x1)
    (s1 : -2147483648 ≤ v4 ∧ v4 < 2147483648)
    (s2 : -2147483648 ≤ x1 ∧ x1 < 2147483648)
    (k3 : (x1 ≤ v4) → T (d + 1) 197 54 [some (aR 188), some (aI v1), some (aI v2), some (aI v3), some (aI 0)] [] (G, c) Q)
    (s4 : (v4 < x1) → 0 ≤ (173 + v4))
    (s5 : (v4 < x1) → (173 + v4) < 514)
    (ex2 : c 190 (173 + v4) = x2)
    (s7 : (v4 < x1) → -2147483648 ≤ x2 ∧ x2 < 2147483648)
    (k8 : (v4 < x1) → (¬ x2 = 0) → T (d + 1) 197 12 [some (aR 188), some (aI v1), some (aI (v2 + 0)), some (aI v3), some (aI (v4 + 1))] [] (G, c) Q)
    (k9 : (v4 < x1) → (x2 = 0) → T (d + 1) 197 12 [some (aR 188), some (aI v1), some (aI (v2 + 1)), some (aI v3), some (aI (v4 + 1))] [] (G, c) Q) :
    T (d + 1) 197 12 [some (aR 188), some (aI v1), some (aI v2), some (aI v3), some (aI v4)] [] (G, c) Q := by
  refine e_L (L' := [some (aR 188), some (aI v1), some (aI v2), some (aI v3), some (aI v4)]) (st' := [aI v4]) (show decode (mC 197) 12 = .ok (.iload 4, 2) by decide +kernel) rfl rfl ?_
  refine e_L (L' := [some (aR 188), some (aI v1), some (aI v2), some (aI v3), some (aI v4)]) (st' := [aR 188, aI v4]) (show decode (mC 197) 14 = .ok (.aload_n 0, 1) by decide +kernel) rfl (by show (if 188 = 0 then none else some (_, _)) = _; rw [if_neg (by decide)]) ?_
  refine e_getR (w := 190) (show decode (mC 197) 15 = .ok (.getfield 33, 3) by decide +kernel) (show pl 12 33 = some (0, 12, 6, 0) by decide +kernel) (by decide) (sh_ok hG (by decide +kernel)) (sh_rf hG (by decide +kernel)) ?_
  refine e_P (st' := [aI 1, aR 190, aI v4]) (show decode (mC 197) 18 = .ok (.iconst 1, 1) by decide +kernel) rfl rfl rfl ?_
  refine e_ialdx (n := 514) (show decode (mC 197) 19 = .ok (.iaload, 1) by decide +kernel) (sh_ok hG (by decide +kernel)) (sh_ln hG (by decide +kernel)) (by decide) (by decide) (by decide) ex1 ?_
  refine e_ge2 (t := 51) (show decode (mC 197) 20 = .ok (.if_icmp .ge 31, 3) by decide +kernel) (by decide) s1 s2 (fun p1 => ?_) (fun p1 => ?_)
  · refine e_P (st' := [aI 0]) (show decode (mC 197) 51 = .ok (.iconst 0, 1) by decide +kernel) rfl rfl rfl ?_
    refine e_L (L' := [some (aR 188), some (aI v1), some (aI v2), some (aI v3), some (aI 0)]) (st' := []) (show decode (mC 197) 52 = .ok (.istore 4, 2) by decide +kernel) rfl rfl ?_
    exact (k3 p1)
  · refine e_L (L' := [some (aR 188), some (aI v1), some (aI v2), some (aI v3), some (aI v4)]) (st' := [aI v2]) (show decode (mC 197) 23 = .ok (.iload_n 2, 1) by decide +kernel) rfl rfl ?_
    refine e_L (L' := [some (aR 188), some (aI v1), some (aI v2), some (aI v3), some (aI v4)]) (st' := [aR 188, aI v2]) (show decode (mC 197) 24 = .ok (.aload_n 0, 1) by decide +kernel) rfl (by show (if 188 = 0 then none else some (_, _)) = _; rw [if_neg (by decide)]) ?_
    refine e_getR (w := 190) (show decode (mC 197) 25 = .ok (.getfield 33, 3) by decide +kernel) (show pl 12 33 = some (0, 12, 6, 0) by decide +kernel) (by decide) (sh_ok hG (by decide +kernel)) (sh_rf hG (by decide +kernel)) ?_
    refine e_P (st' := [aI 173, aR 190, aI v2]) (show decode (mC 197) 28 = .ok (.sipush 173, 3) by decide +kernel) rfl rfl rfl ?_
    refine e_L (L' := [some (aR 188), some (aI v1), some (aI v2), some (aI v3), some (aI v4)]) (st' := [aI v4, aI 173, aR 190, aI v2]) (show decode (mC 197) 31 = .ok (.iload 4, 2) by decide +kernel) rfl rfl ?_
    refine e_P (st' := [aI (173 + v4), aR 190, aI v2]) (show decode (mC 197) 33 = .ok (.iadd, 1) by decide +kernel) rfl rfl rfl ?_
    refine e_ialdx (n := 514) (show decode (mC 197) 34 = .ok (.iaload, 1) by decide +kernel) (sh_ok hG (by decide +kernel)) (sh_ln hG (by decide +kernel)) (by decide) (s4 p1) (s5 p1) ex2 ?_
    refine e_ne1 (t := 42) (show decode (mC 197) 35 = .ok (.ifCond .ne 7, 3) by decide +kernel) (by decide) (s7 p1) (fun p2 => ?_) (fun p2 => ?_)
    · refine e_P (st' := [aI 0, aI v2]) (show decode (mC 197) 42 = .ok (.iconst 0, 1) by decide +kernel) rfl rfl rfl ?_
      refine e_P (st' := [aI (v2 + 0)]) (show decode (mC 197) 43 = .ok (.iadd, 1) by decide +kernel) rfl rfl rfl ?_
      refine e_L (L' := [some (aR 188), some (aI v1), some (aI (v2 + 0)), some (aI v3), some (aI v4)]) (st' := []) (show decode (mC 197) 44 = .ok (.istore_n 2, 1) by decide +kernel) rfl rfl ?_
      refine e_L (L' := [some (aR 188), some (aI v1), some (aI (v2 + 0)), some (aI v3), some (aI (v4 + 1))]) (st' := []) (show decode (mC 197) 45 = .ok (.iinc 4 1, 3) by decide +kernel) rfl rfl ?_
      refine e_go (t := 12) (show decode (mC 197) 48 = .ok (.goto (-36), 3) by decide +kernel) (by decide) ?_
      exact (k8 p1 p2)
    · refine e_P (st' := [aI 1, aI v2]) (show decode (mC 197) 38 = .ok (.iconst 1, 1) by decide +kernel) rfl rfl rfl ?_
      refine e_go (t := 43) (show decode (mC 197) 39 = .ok (.goto 4, 3) by decide +kernel) (by decide) ?_
      refine e_P (st' := [aI (v2 + 1)]) (show decode (mC 197) 43 = .ok (.iadd, 1) by decide +kernel) rfl rfl rfl ?_
      refine e_L (L' := [some (aR 188), some (aI v1), some (aI (v2 + 1)), some (aI v3), some (aI v4)]) (st' := []) (show decode (mC 197) 44 = .ok (.istore_n 2, 1) by decide +kernel) rfl rfl ?_
      refine e_L (L' := [some (aR 188), some (aI v1), some (aI (v2 + 1)), some (aI v3), some (aI (v4 + 1))]) (st' := []) (show decode (mC 197) 45 = .ok (.iinc 4 1, 3) by decide +kernel) rfl rfl ?_
      refine e_go (t := 12) (show decode (mC 197) 48 = .ok (.goto (-36), 3) by decide +kernel) (by decide) ?_
      exact (k9 p1 p2)
/-- SoulOfficeModel.now(I)I, from 54 -/
theorem b197_54 (hG : Shp G) {v1 v2 v3 v4 x1 x2 x3 x4 x5 : Int} (hQ : ∀ o o' h', q_eqo o o' → Q o h' → Q o' h')
    (s0 : -2147483648 ≤ v4 ∧ v4 < 2147483648)
    (s1 : (64 ≤ v4) → -2147483648 ≤ v1 ∧ v1 < 2147483648)
    (z2 : (64 ≤ v4) → (v1 < 0 ∨ 6 < v1) → Q (.inl (some (aI (-1)))) (G, c))
    (ex1 : c 190 168 = x1)
    (z4 : (64 ≤ v4) → (v1 = 0) → Q (.inl (some (aI x1))) (G, c))
    (m5 : (64 ≤ v4) → (v1 = 1) → TM d 196 [aR 188] (G, c) (fun r h' => T (d + 1) 197 145 [none, none, none, none, none] (r.toList ++ []) h' Q))
    (ex2 : c 190 169 = x2)
    (z7 : (64 ≤ v4) → (v1 = 2) → Q (.inl (some (aI x2))) (G, c))
    (ex3 : c 190 170 = x3)
    (z9 : (64 ≤ v4) → (v1 = 3) → Q (.inl (some (aI x3))) (G, c))
    (z10 : (64 ≤ v4) → (v1 = 4) → Q (.inl (some (aI v2))) (G, c))
    (ex4 : c 190 171 = x4)
    (z12 : (64 ≤ v4) → (v1 = 5) → Q (.inl (some (aI x4))) (G, c))
    (z13 : (64 ≤ v4) → (v1 = 6) → Q (.inl (some (aI v3))) (G, c))
    (s14 : (v4 < 64) → 0 ≤ (205 + v4))
    (s15 : (v4 < 64) → (205 + v4) < 514)
    (ex5 : c 190 (205 + v4) = x5)
    (s17 : (v4 < 64) → -2147483648 ≤ x5 ∧ x5 < 2147483648)
    (k18 : (v4 < 64) → (x5 ≤ 0) → T (d + 1) 197 54 [some (aR 188), some (aI v1), some (aI v2), some (aI (v3 + 0)), some (aI (v4 + 1))] [] (G, c) Q)
    (k19 : (v4 < 64) → (0 < x5) → T (d + 1) 197 54 [some (aR 188), some (aI v1), some (aI v2), some (aI (v3 + 1)), some (aI (v4 + 1))] [] (G, c) Q) :
    T (d + 1) 197 54 [some (aR 188), some (aI v1), some (aI v2), some (aI v3), some (aI v4)] [] (G, c) Q := by
  refine e_L (L' := [some (aR 188), some (aI v1), some (aI v2), some (aI v3), some (aI v4)]) (st' := [aI v4]) (show decode (mC 197) 54 = .ok (.iload 4, 2) by decide +kernel) rfl rfl ?_
  refine e_P (st' := [aI 64, aI v4]) (show decode (mC 197) 56 = .ok (.bipush 64, 2) by decide +kernel) rfl rfl rfl ?_
  refine e_ge2 (t := 89) (show decode (mC 197) 58 = .ok (.if_icmp .ge 31, 3) by decide +kernel) (by decide) s0 (by decide) (fun p1 => ?_) (fun p1 => ?_)
  · refine e_L (L' := [some (aR 188), some (aI v1), some (aI v2), some (aI v3), some (aI v4)]) (st' := [aI v1]) (show decode (mC 197) 89 = .ok (.iload_n 1, 1) by decide +kernel) rfl rfl ?_
    rcases (show (v1 < 0 ∨ 6 < v1) ∨ v1 = 0 ∨ v1 = 1 ∨ v1 = 2 ∨ v1 = 3 ∨ v1 = 4 ∨ v1 = 5 ∨ v1 = 6 by omega) with p2 | p2 | p2 | p2 | p2 | p2 | p2 | p2
    · refine e_swd (t := 177) (show decode (mC 197) 90 = .ok (.tableswitch 87 0 6 #[42, 51, 56, 65, 74, 76, 85], 42) by decide +kernel) (s1 p1) p2 (by decide) ?_
      refine e_P (st' := [aI (-1)]) (show decode (mC 197) 177 = .ok (.iconst (-1), 1) by decide +kernel) rfl rfl rfl ?_
      exact e_iret (show decode (mC 197) 178 = .ok (.ireturn, 1) by decide +kernel) rfl (z2 p1 p2)
    · refine e_swj (off := 42) (t := 132) 0 (show decode (mC 197) 90 = .ok (.tableswitch 87 0 6 #[42, 51, 56, 65, 74, 76, 85], 42) by decide +kernel) p2 (by decide +kernel) ?_
      refine e_L (L' := [some (aR 188), some (aI v1), some (aI v2), some (aI v3), some (aI v4)]) (st' := [aR 188]) (show decode (mC 197) 132 = .ok (.aload_n 0, 1) by decide +kernel) rfl (by show (if 188 = 0 then none else some (_, _)) = _; rw [if_neg (by decide)]) ?_
      refine e_getR (w := 190) (show decode (mC 197) 133 = .ok (.getfield 33, 3) by decide +kernel) (show pl 12 33 = some (0, 12, 6, 0) by decide +kernel) (by decide) (sh_ok hG (by decide +kernel)) (sh_rf hG (by decide +kernel)) ?_
      refine e_P (st' := [aI 168, aR 190]) (show decode (mC 197) 136 = .ok (.sipush 168, 3) by decide +kernel) rfl rfl rfl ?_
      refine e_ialdx (n := 514) (show decode (mC 197) 139 = .ok (.iaload, 1) by decide +kernel) (sh_ok hG (by decide +kernel)) (sh_ln hG (by decide +kernel)) (by decide) (by decide) (by decide) ex1 ?_
      exact e_iret (show decode (mC 197) 140 = .ok (.ireturn, 1) by decide +kernel) rfl (z4 p1 p2)
    · refine e_swj (off := 51) (t := 141) 1 (show decode (mC 197) 90 = .ok (.tableswitch 87 0 6 #[42, 51, 56, 65, 74, 76, 85], 42) by decide +kernel) p2 (by decide +kernel) ?_
      refine e_L (L' := [some (aR 188), some (aI v1), some (aI v2), some (aI v3), some (aI v4)]) (st' := [aR 188]) (show decode (mC 197) 141 = .ok (.aload_n 0, 1) by decide +kernel) rfl (by show (if 188 = 0 then none else some (_, _)) = _; rw [if_neg (by decide)]) ?_
      exact e_V (as := [aR 188]) (rest := []) (show decode (mC 197) 142 = .ok (.invokevirtual 261, 3) by decide +kernel) (by decide +kernel) (show (decide ((1 : Nat) = mA 196) && decide (196 < q_law)) = true by decide +kernel) rfl (show (0 : Nat) ≤ 8 by decide) (show (1 : Nat) ≤ mL 196 by decide +kernel) rfl (sh_ok hG (by decide +kernel)) (tm_le hQ (leN (leN (leN (leN (leN leE))))) (m5 p1 p2))
    · refine e_swj (off := 56) (t := 146) 2 (show decode (mC 197) 90 = .ok (.tableswitch 87 0 6 #[42, 51, 56, 65, 74, 76, 85], 42) by decide +kernel) p2 (by decide +kernel) ?_
      refine e_L (L' := [some (aR 188), some (aI v1), some (aI v2), some (aI v3), some (aI v4)]) (st' := [aR 188]) (show decode (mC 197) 146 = .ok (.aload_n 0, 1) by decide +kernel) rfl (by show (if 188 = 0 then none else some (_, _)) = _; rw [if_neg (by decide)]) ?_
      refine e_getR (w := 190) (show decode (mC 197) 147 = .ok (.getfield 33, 3) by decide +kernel) (show pl 12 33 = some (0, 12, 6, 0) by decide +kernel) (by decide) (sh_ok hG (by decide +kernel)) (sh_rf hG (by decide +kernel)) ?_
      refine e_P (st' := [aI 169, aR 190]) (show decode (mC 197) 150 = .ok (.sipush 169, 3) by decide +kernel) rfl rfl rfl ?_
      refine e_ialdx (n := 514) (show decode (mC 197) 153 = .ok (.iaload, 1) by decide +kernel) (sh_ok hG (by decide +kernel)) (sh_ln hG (by decide +kernel)) (by decide) (by decide) (by decide) ex2 ?_
      exact e_iret (show decode (mC 197) 154 = .ok (.ireturn, 1) by decide +kernel) rfl (z7 p1 p2)
    · refine e_swj (off := 65) (t := 155) 3 (show decode (mC 197) 90 = .ok (.tableswitch 87 0 6 #[42, 51, 56, 65, 74, 76, 85], 42) by decide +kernel) p2 (by decide +kernel) ?_
      refine e_L (L' := [some (aR 188), some (aI v1), some (aI v2), some (aI v3), some (aI v4)]) (st' := [aR 188]) (show decode (mC 197) 155 = .ok (.aload_n 0, 1) by decide +kernel) rfl (by show (if 188 = 0 then none else some (_, _)) = _; rw [if_neg (by decide)]) ?_
      refine e_getR (w := 190) (show decode (mC 197) 156 = .ok (.getfield 33, 3) by decide +kernel) (show pl 12 33 = some (0, 12, 6, 0) by decide +kernel) (by decide) (sh_ok hG (by decide +kernel)) (sh_rf hG (by decide +kernel)) ?_
      refine e_P (st' := [aI 170, aR 190]) (show decode (mC 197) 159 = .ok (.sipush 170, 3) by decide +kernel) rfl rfl rfl ?_
      refine e_ialdx (n := 514) (show decode (mC 197) 162 = .ok (.iaload, 1) by decide +kernel) (sh_ok hG (by decide +kernel)) (sh_ln hG (by decide +kernel)) (by decide) (by decide) (by decide) ex3 ?_
      exact e_iret (show decode (mC 197) 163 = .ok (.ireturn, 1) by decide +kernel) rfl (z9 p1 p2)
    · refine e_swj (off := 74) (t := 164) 4 (show decode (mC 197) 90 = .ok (.tableswitch 87 0 6 #[42, 51, 56, 65, 74, 76, 85], 42) by decide +kernel) p2 (by decide +kernel) ?_
      refine e_L (L' := [some (aR 188), some (aI v1), some (aI v2), some (aI v3), some (aI v4)]) (st' := [aI v2]) (show decode (mC 197) 164 = .ok (.iload_n 2, 1) by decide +kernel) rfl rfl ?_
      exact e_iret (show decode (mC 197) 165 = .ok (.ireturn, 1) by decide +kernel) rfl (z10 p1 p2)
    · refine e_swj (off := 76) (t := 166) 5 (show decode (mC 197) 90 = .ok (.tableswitch 87 0 6 #[42, 51, 56, 65, 74, 76, 85], 42) by decide +kernel) p2 (by decide +kernel) ?_
      refine e_L (L' := [some (aR 188), some (aI v1), some (aI v2), some (aI v3), some (aI v4)]) (st' := [aR 188]) (show decode (mC 197) 166 = .ok (.aload_n 0, 1) by decide +kernel) rfl (by show (if 188 = 0 then none else some (_, _)) = _; rw [if_neg (by decide)]) ?_
      refine e_getR (w := 190) (show decode (mC 197) 167 = .ok (.getfield 33, 3) by decide +kernel) (show pl 12 33 = some (0, 12, 6, 0) by decide +kernel) (by decide) (sh_ok hG (by decide +kernel)) (sh_rf hG (by decide +kernel)) ?_
      refine e_P (st' := [aI 171, aR 190]) (show decode (mC 197) 170 = .ok (.sipush 171, 3) by decide +kernel) rfl rfl rfl ?_
      refine e_ialdx (n := 514) (show decode (mC 197) 173 = .ok (.iaload, 1) by decide +kernel) (sh_ok hG (by decide +kernel)) (sh_ln hG (by decide +kernel)) (by decide) (by decide) (by decide) ex4 ?_
      exact e_iret (show decode (mC 197) 174 = .ok (.ireturn, 1) by decide +kernel) rfl (z12 p1 p2)
    · refine e_swj (off := 85) (t := 175) 6 (show decode (mC 197) 90 = .ok (.tableswitch 87 0 6 #[42, 51, 56, 65, 74, 76, 85], 42) by decide +kernel) p2 (by decide +kernel) ?_
      refine e_L (L' := [some (aR 188), some (aI v1), some (aI v2), some (aI v3), some (aI v4)]) (st' := [aI v3]) (show decode (mC 197) 175 = .ok (.iload_n 3, 1) by decide +kernel) rfl rfl ?_
      exact e_iret (show decode (mC 197) 176 = .ok (.ireturn, 1) by decide +kernel) rfl (z13 p1 p2)
  · refine e_L (L' := [some (aR 188), some (aI v1), some (aI v2), some (aI v3), some (aI v4)]) (st' := [aI v3]) (show decode (mC 197) 61 = .ok (.iload_n 3, 1) by decide +kernel) rfl rfl ?_
    refine e_L (L' := [some (aR 188), some (aI v1), some (aI v2), some (aI v3), some (aI v4)]) (st' := [aR 188, aI v3]) (show decode (mC 197) 62 = .ok (.aload_n 0, 1) by decide +kernel) rfl (by show (if 188 = 0 then none else some (_, _)) = _; rw [if_neg (by decide)]) ?_
    refine e_getR (w := 190) (show decode (mC 197) 63 = .ok (.getfield 33, 3) by decide +kernel) (show pl 12 33 = some (0, 12, 6, 0) by decide +kernel) (by decide) (sh_ok hG (by decide +kernel)) (sh_rf hG (by decide +kernel)) ?_
    refine e_P (st' := [aI 205, aR 190, aI v3]) (show decode (mC 197) 66 = .ok (.sipush 205, 3) by decide +kernel) rfl rfl rfl ?_
    refine e_L (L' := [some (aR 188), some (aI v1), some (aI v2), some (aI v3), some (aI v4)]) (st' := [aI v4, aI 205, aR 190, aI v3]) (show decode (mC 197) 69 = .ok (.iload 4, 2) by decide +kernel) rfl rfl ?_
    refine e_P (st' := [aI (205 + v4), aR 190, aI v3]) (show decode (mC 197) 71 = .ok (.iadd, 1) by decide +kernel) rfl rfl rfl ?_
    refine e_ialdx (n := 514) (show decode (mC 197) 72 = .ok (.iaload, 1) by decide +kernel) (sh_ok hG (by decide +kernel)) (sh_ln hG (by decide +kernel)) (by decide) (s14 p1) (s15 p1) ex5 ?_
    refine e_le1 (t := 80) (show decode (mC 197) 73 = .ok (.ifCond .le 7, 3) by decide +kernel) (by decide) (s17 p1) (fun p2 => ?_) (fun p2 => ?_)
    · refine e_P (st' := [aI 0, aI v3]) (show decode (mC 197) 80 = .ok (.iconst 0, 1) by decide +kernel) rfl rfl rfl ?_
      refine e_P (st' := [aI (v3 + 0)]) (show decode (mC 197) 81 = .ok (.iadd, 1) by decide +kernel) rfl rfl rfl ?_
      refine e_L (L' := [some (aR 188), some (aI v1), some (aI v2), some (aI (v3 + 0)), some (aI v4)]) (st' := []) (show decode (mC 197) 82 = .ok (.istore_n 3, 1) by decide +kernel) rfl rfl ?_
      refine e_L (L' := [some (aR 188), some (aI v1), some (aI v2), some (aI (v3 + 0)), some (aI (v4 + 1))]) (st' := []) (show decode (mC 197) 83 = .ok (.iinc 4 1, 3) by decide +kernel) rfl rfl ?_
      refine e_go (t := 54) (show decode (mC 197) 86 = .ok (.goto (-32), 3) by decide +kernel) (by decide) ?_
      exact (k18 p1 p2)
    · refine e_P (st' := [aI 1, aI v3]) (show decode (mC 197) 76 = .ok (.iconst 1, 1) by decide +kernel) rfl rfl rfl ?_
      refine e_go (t := 81) (show decode (mC 197) 77 = .ok (.goto 4, 3) by decide +kernel) (by decide) ?_
      refine e_P (st' := [aI (v3 + 1)]) (show decode (mC 197) 81 = .ok (.iadd, 1) by decide +kernel) rfl rfl rfl ?_
      refine e_L (L' := [some (aR 188), some (aI v1), some (aI v2), some (aI (v3 + 1)), some (aI v4)]) (st' := []) (show decode (mC 197) 82 = .ok (.istore_n 3, 1) by decide +kernel) rfl rfl ?_
      refine e_L (L' := [some (aR 188), some (aI v1), some (aI v2), some (aI (v3 + 1)), some (aI (v4 + 1))]) (st' := []) (show decode (mC 197) 83 = .ok (.iinc 4 1, 3) by decide +kernel) rfl rfl ?_
      refine e_go (t := 54) (show decode (mC 197) 86 = .ok (.goto (-32), 3) by decide +kernel) (by decide) ?_
      exact (k19 p1 p2)
/-- SoulOfficeModel.now(I)I, from 145 -/
theorem b197_145 (hG : Shp G) {u0 : Int}
    (z0 : Q (.inl (some (aI u0))) (G, c)) :
    T (d + 1) 197 145 [none, none, none, none, none] [aI u0] (G, c) Q := by
  exact e_iret (show decode (mC 197) 145 = .ok (.ireturn, 1) by decide +kernel) rfl z0
/-- SoulOfficeModel.whyOf(II)I, from 0 -/
theorem b198_0 (hG : Shp G) {v1 v2 x1 x2 : Int} (hQ : ∀ o o' h', q_eqo o o' → Q o h' → Q o' h')
    (s0 : 0 ≤ (173 + v1))
    (s1 : (173 + v1) < 514)
    (ex1 : c 190 (173 + v1) = x1)
    (s3 : -2147483648 ≤ x1 ∧ x1 < 2147483648)
    (s4 : (x1 ≤ 0) → 0 ≤ (51 + v1))
    (s5 : (x1 ≤ 0) → (51 + v1) < 514)
    (ex2 : c 190 (51 + v1) = x2)
    (m7 : (x1 ≤ 0) → TM d 165 [aI x2, aI v2] (G, c) (fun r h' => T (d + 1) 198 30 [some (aR 188), none, some (aI v2)] (r.toList ++ []) h' Q))
    (z8 : (0 < x1) → Q (.inl (some (aI 1))) (G, c)) :
    T (d + 1) 198 0 [some (aR 188), some (aI v1), some (aI v2)] [] (G, c) Q := by
  refine e_L (L' := [some (aR 188), some (aI v1), some (aI v2)]) (st' := [aR 188]) (show decode (mC 198) 0 = .ok (.aload_n 0, 1) by decide +kernel) rfl (by show (if 188 = 0 then none else some (_, _)) = _; rw [if_neg (by decide)]) ?_
  refine e_getR (w := 190) (show decode (mC 198) 1 = .ok (.getfield 33, 3) by decide +kernel) (show pl 12 33 = some (0, 12, 6, 0) by decide +kernel) (by decide) (sh_ok hG (by decide +kernel)) (sh_rf hG (by decide +kernel)) ?_
  refine e_P (st' := [aI 173, aR 190]) (show decode (mC 198) 4 = .ok (.sipush 173, 3) by decide +kernel) rfl rfl rfl ?_
  refine e_L (L' := [some (aR 188), some (aI v1), some (aI v2)]) (st' := [aI v1, aI 173, aR 190]) (show decode (mC 198) 7 = .ok (.iload_n 1, 1) by decide +kernel) rfl rfl ?_
  refine e_P (st' := [aI (173 + v1), aR 190]) (show decode (mC 198) 8 = .ok (.iadd, 1) by decide +kernel) rfl rfl rfl ?_
  refine e_ialdx (n := 514) (show decode (mC 198) 9 = .ok (.iaload, 1) by decide +kernel) (sh_ok hG (by decide +kernel)) (sh_ln hG (by decide +kernel)) (by decide) s0 s1 ex1 ?_
  refine e_le1 (t := 17) (show decode (mC 198) 10 = .ok (.ifCond .le 7, 3) by decide +kernel) (by decide) s3 (fun p1 => ?_) (fun p1 => ?_)
  · refine e_L (L' := [some (aR 188), some (aI v1), some (aI v2)]) (st' := [aR 188]) (show decode (mC 198) 17 = .ok (.aload_n 0, 1) by decide +kernel) rfl (by show (if 188 = 0 then none else some (_, _)) = _; rw [if_neg (by decide)]) ?_
    refine e_getR (w := 190) (show decode (mC 198) 18 = .ok (.getfield 33, 3) by decide +kernel) (show pl 12 33 = some (0, 12, 6, 0) by decide +kernel) (by decide) (sh_ok hG (by decide +kernel)) (sh_rf hG (by decide +kernel)) ?_
    refine e_P (st' := [aI 51, aR 190]) (show decode (mC 198) 21 = .ok (.bipush 51, 2) by decide +kernel) rfl rfl rfl ?_
    refine e_L (L' := [some (aR 188), some (aI v1), some (aI v2)]) (st' := [aI v1, aI 51, aR 190]) (show decode (mC 198) 23 = .ok (.iload_n 1, 1) by decide +kernel) rfl rfl ?_
    refine e_P (st' := [aI (51 + v1), aR 190]) (show decode (mC 198) 24 = .ok (.iadd, 1) by decide +kernel) rfl rfl rfl ?_
    refine e_ialdx (n := 514) (show decode (mC 198) 25 = .ok (.iaload, 1) by decide +kernel) (sh_ok hG (by decide +kernel)) (sh_ln hG (by decide +kernel)) (by decide) (s4 p1) (s5 p1) ex2 ?_
    refine e_L (L' := [some (aR 188), some (aI v1), some (aI v2)]) (st' := [aI v2, aI x2]) (show decode (mC 198) 26 = .ok (.iload_n 2, 1) by decide +kernel) rfl rfl ?_
    exact e_S (as := [aI x2, aI v2]) (rest := []) (show decode (mC 198) 27 = .ok (.invokestatic 219, 3) by decide +kernel) (by decide +kernel) (show (decide ((2 : Nat) = mA 165) && decide (165 < q_law)) = true by decide +kernel) rfl (show (0 : Nat) ≤ 8 by decide) (show (2 : Nat) ≤ mL 165 by decide +kernel) (tm_le hQ (leS (leN (leS leE))) (m7 p1))
  · refine e_P (st' := [aI 1]) (show decode (mC 198) 13 = .ok (.iconst 1, 1) by decide +kernel) rfl rfl rfl ?_
    refine e_go (t := 50) (show decode (mC 198) 14 = .ok (.goto 36, 3) by decide +kernel) (by decide) ?_
    exact e_iret (show decode (mC 198) 50 = .ok (.ireturn, 1) by decide +kernel) rfl (z8 p1)
/-- SoulOfficeModel.whyOf(II)I, from 30 -/
theorem b198_30 (hG : Shp G) {v2 u0 : Int} (hQ : ∀ o o' h', q_eqo o o' → Q o h' → Q o' h')
    (s0 : -2147483648 ≤ u0 ∧ u0 < 2147483648)
    (m1 : (¬ u0 = 0) → TM d 189 [aR 188, aI v2] (G, c) (fun r h' => T (d + 1) 198 42 [none, none, none] (r.toList ++ []) h' Q))
    (z2 : (u0 = 0) → Q (.inl (some (aI 2))) (G, c)) :
    T (d + 1) 198 30 [some (aR 188), none, some (aI v2)] [aI u0] (G, c) Q := by
  refine e_ne1 (t := 37) (show decode (mC 198) 30 = .ok (.ifCond .ne 7, 3) by decide +kernel) (by decide) s0 (fun p1 => ?_) (fun p1 => ?_)
  · refine e_L (L' := [some (aR 188), none, some (aI v2)]) (st' := [aR 188]) (show decode (mC 198) 37 = .ok (.aload_n 0, 1) by decide +kernel) rfl (by show (if 188 = 0 then none else some (_, _)) = _; rw [if_neg (by decide)]) ?_
    refine e_L (L' := [some (aR 188), none, some (aI v2)]) (st' := [aI v2, aR 188]) (show decode (mC 198) 38 = .ok (.iload_n 2, 1) by decide +kernel) rfl rfl ?_
    exact e_V (as := [aR 188, aI v2]) (rest := []) (show decode (mC 198) 39 = .ok (.invokevirtual 244, 3) by decide +kernel) (by decide +kernel) (show (decide ((2 : Nat) = mA 189) && decide (189 < q_law)) = true by decide +kernel) rfl (show (0 : Nat) ≤ 8 by decide) (show (2 : Nat) ≤ mL 189 by decide +kernel) rfl (sh_ok hG (by decide +kernel)) (tm_le hQ (leN (leS (leN leE))) (m1 p1))
  · refine e_P (st' := [aI 2]) (show decode (mC 198) 33 = .ok (.iconst 2, 1) by decide +kernel) rfl rfl rfl ?_
    refine e_go (t := 50) (show decode (mC 198) 34 = .ok (.goto 16, 3) by decide +kernel) (by decide) ?_
    exact e_iret (show decode (mC 198) 50 = .ok (.ireturn, 1) by decide +kernel) rfl (z2 p1)
/-- SoulOfficeModel.whyOf(II)I, from 42 -/
theorem b198_42 (hG : Shp G) {u0 : Int}
    (s0 : -2147483648 ≤ u0 ∧ u0 < 2147483648)
    (z1 : (¬ u0 = 0) → Q (.inl (some (aI 0))) (G, c))
    (z2 : (u0 = 0) → Q (.inl (some (aI 3))) (G, c)) :
    T (d + 1) 198 42 [none, none, none] [aI u0] (G, c) Q := by
  refine e_ne1 (t := 49) (show decode (mC 198) 42 = .ok (.ifCond .ne 7, 3) by decide +kernel) (by decide) s0 (fun p1 => ?_) (fun p1 => ?_)
  · refine e_P (st' := [aI 0]) (show decode (mC 198) 49 = .ok (.iconst 0, 1) by decide +kernel) rfl rfl rfl ?_
    exact e_iret (show decode (mC 198) 50 = .ok (.ireturn, 1) by decide +kernel) rfl (z1 p1)
  · refine e_P (st' := [aI 3]) (show decode (mC 198) 45 = .ok (.iconst 3, 1) by decide +kernel) rfl rfl rfl ?_
    refine e_go (t := 50) (show decode (mC 198) 46 = .ok (.goto 4, 3) by decide +kernel) (by decide) ?_
    exact e_iret (show decode (mC 198) 50 = .ok (.ireturn, 1) by decide +kernel) rfl (z2 p1)
/-- SoulOfficeModel.lives(II)V, from 0 -/
theorem b199_0 (hG : Shp G) {v1 v2 x1 : Int}
    (s0 : 0 ≤ (173 + v1))
    (s1 : (173 + v1) < 514)
    (s2 : 0 ≤ (3 + v2))
    (s3 : (3 + v2) < 514)
    (ex1 : (q_up c 190 (173 + v1) (v2 + 1)) 190 (3 + v2) = x1)
    (s5 : 0 ≤ (181 + v1))
    (s6 : (181 + v1) < 514)
    (z7 : Q (.inl none) (G, (q_up (q_up c 190 (173 + v1) (v2 + 1)) 190 (181 + v1) x1))) :
    T d 199 0 [some (aR 188), some (aI v1), some (aI v2)] [] (G, c) Q := by
  refine e_L (L' := [some (aR 188), some (aI v1), some (aI v2)]) (st' := [aR 188]) (show decode (mC 199) 0 = .ok (.aload_n 0, 1) by decide +kernel) rfl (by show (if 188 = 0 then none else some (_, _)) = _; rw [if_neg (by decide)]) ?_
  refine e_getR (w := 190) (show decode (mC 199) 1 = .ok (.getfield 33, 3) by decide +kernel) (show pl 12 33 = some (0, 12, 6, 0) by decide +kernel) (by decide) (sh_ok hG (by decide +kernel)) (sh_rf hG (by decide +kernel)) ?_
  refine e_P (st' := [aI 173, aR 190]) (show decode (mC 199) 4 = .ok (.sipush 173, 3) by decide +kernel) rfl rfl rfl ?_
  refine e_L (L' := [some (aR 188), some (aI v1), some (aI v2)]) (st' := [aI v1, aI 173, aR 190]) (show decode (mC 199) 7 = .ok (.iload_n 1, 1) by decide +kernel) rfl rfl ?_
  refine e_P (st' := [aI (173 + v1), aR 190]) (show decode (mC 199) 8 = .ok (.iadd, 1) by decide +kernel) rfl rfl rfl ?_
  refine e_L (L' := [some (aR 188), some (aI v1), some (aI v2)]) (st' := [aI v2, aI (173 + v1), aR 190]) (show decode (mC 199) 9 = .ok (.iload_n 2, 1) by decide +kernel) rfl rfl ?_
  refine e_P (st' := [aI 1, aI v2, aI (173 + v1), aR 190]) (show decode (mC 199) 10 = .ok (.iconst 1, 1) by decide +kernel) rfl rfl rfl ?_
  refine e_P (st' := [aI (v2 + 1), aI (173 + v1), aR 190]) (show decode (mC 199) 11 = .ok (.iadd, 1) by decide +kernel) rfl rfl rfl ?_
  refine e_iast (n := 514) (show decode (mC 199) 12 = .ok (.iastore, 1) by decide +kernel) (sh_ok hG (by decide +kernel)) (sh_ln hG (by decide +kernel)) (by decide) s0 s1 ?_
  refine e_L (L' := [some (aR 188), some (aI v1), some (aI v2)]) (st' := [aR 188]) (show decode (mC 199) 13 = .ok (.aload_n 0, 1) by decide +kernel) rfl (by show (if 188 = 0 then none else some (_, _)) = _; rw [if_neg (by decide)]) ?_
  refine e_getR (w := 190) (show decode (mC 199) 14 = .ok (.getfield 33, 3) by decide +kernel) (show pl 12 33 = some (0, 12, 6, 0) by decide +kernel) (by decide) (sh_ok hG (by decide +kernel)) (sh_rf hG (by decide +kernel)) ?_
  refine e_P (st' := [aI 181, aR 190]) (show decode (mC 199) 17 = .ok (.sipush 181, 3) by decide +kernel) rfl rfl rfl ?_
  refine e_L (L' := [some (aR 188), some (aI v1), some (aI v2)]) (st' := [aI v1, aI 181, aR 190]) (show decode (mC 199) 20 = .ok (.iload_n 1, 1) by decide +kernel) rfl rfl ?_
  refine e_P (st' := [aI (181 + v1), aR 190]) (show decode (mC 199) 21 = .ok (.iadd, 1) by decide +kernel) rfl rfl rfl ?_
  refine e_L (L' := [some (aR 188), some (aI v1), some (aI v2)]) (st' := [aR 188, aI (181 + v1), aR 190]) (show decode (mC 199) 22 = .ok (.aload_n 0, 1) by decide +kernel) rfl (by show (if 188 = 0 then none else some (_, _)) = _; rw [if_neg (by decide)]) ?_
  refine e_getR (w := 190) (show decode (mC 199) 23 = .ok (.getfield 33, 3) by decide +kernel) (show pl 12 33 = some (0, 12, 6, 0) by decide +kernel) (by decide) (sh_ok hG (by decide +kernel)) (sh_rf hG (by decide +kernel)) ?_
  refine e_P (st' := [aI 3, aR 190, aI (181 + v1), aR 190]) (show decode (mC 199) 26 = .ok (.iconst 3, 1) by decide +kernel) rfl rfl rfl ?_
  refine e_L (L' := [some (aR 188), some (aI v1), some (aI v2)]) (st' := [aI v2, aI 3, aR 190, aI (181 + v1), aR 190]) (show decode (mC 199) 27 = .ok (.iload_n 2, 1) by decide +kernel) rfl rfl ?_
  refine e_P (st' := [aI (3 + v2), aR 190, aI (181 + v1), aR 190]) (show decode (mC 199) 28 = .ok (.iadd, 1) by decide +kernel) rfl rfl rfl ?_
  refine e_ialdx (n := 514) (show decode (mC 199) 29 = .ok (.iaload, 1) by decide +kernel) (sh_ok hG (by decide +kernel)) (sh_ln hG (by decide +kernel)) (by decide) s2 s3 ex1 ?_
  refine e_iast (n := 514) (show decode (mC 199) 30 = .ok (.iastore, 1) by decide +kernel) (sh_ok hG (by decide +kernel)) (sh_ln hG (by decide +kernel)) (by decide) s5 s6 ?_
  exact e_vret (show decode (mC 199) 31 = .ok (.return_, 1) by decide +kernel) rfl z7
/-- SoulOfficeModel.born(II)V, from 0 -/
theorem b200_0 (hG : Shp G) {v1 v2 : Int} (hQ : ∀ o o' h', q_eqo o o' → Q o h' → Q o' h')
    (m0 : TM d 199 [aR 188, aI v1, aI v2] (G, c) (fun r h' => T (d + 1) 200 6 [some (aR 188), some (aI v1), none] (r.toList ++ []) h' Q)) :
    T (d + 1) 200 0 [some (aR 188), some (aI v1), some (aI v2)] [] (G, c) Q := by
  refine e_L (L' := [some (aR 188), some (aI v1), some (aI v2)]) (st' := [aR 188]) (show decode (mC 200) 0 = .ok (.aload_n 0, 1) by decide +kernel) rfl (by show (if 188 = 0 then none else some (_, _)) = _; rw [if_neg (by decide)]) ?_
  refine e_L (L' := [some (aR 188), some (aI v1), some (aI v2)]) (st' := [aI v1, aR 188]) (show decode (mC 200) 1 = .ok (.iload_n 1, 1) by decide +kernel) rfl rfl ?_
  refine e_L (L' := [some (aR 188), some (aI v1), some (aI v2)]) (st' := [aI v2, aI v1, aR 188]) (show decode (mC 200) 2 = .ok (.iload_n 2, 1) by decide +kernel) rfl rfl ?_
  exact e_V (as := [aR 188, aI v1, aI v2]) (rest := []) (show decode (mC 200) 3 = .ok (.invokevirtual 264, 3) by decide +kernel) (by decide +kernel) (show (decide ((3 : Nat) = mA 199) && decide (199 < q_law)) = true by decide +kernel) rfl (show (0 : Nat) ≤ 8 by decide) (show (3 : Nat) ≤ mL 199 by decide +kernel) rfl (sh_ok hG (by decide +kernel)) (tm_le hQ (leS (leS (leN leE))) m0)
/-- SoulOfficeModel.born(II)V, from 6 -/
theorem b200_6 (hG : Shp G) {v1 x1 x2 : Int}
    (s0 : 0 ≤ (197 + v1))
    (s1 : (197 + v1) < 514)
    (s2 : 0 ≤ (189 + v1))
    (s3 : (189 + v1) < 514)
    (ex1 : (q_up c 190 (197 + v1) 1) 190 (189 + v1) = x1)
    (ex2 : (q_up (q_up c 190 (197 + v1) 1) 190 (189 + v1) (x1 + 1)) 190 171 = x2)
    (z6 : Q (.inl none) (G, (q_up (q_up (q_up c 190 (197 + v1) 1) 190 (189 + v1) (x1 + 1)) 190 171 (x2 + 1)))) :
    T (d + 1) 200 6 [some (aR 188), some (aI v1), none] [] (G, c) Q := by
  refine e_L (L' := [some (aR 188), some (aI v1), none]) (st' := [aR 188]) (show decode (mC 200) 6 = .ok (.aload_n 0, 1) by decide +kernel) rfl (by show (if 188 = 0 then none else some (_, _)) = _; rw [if_neg (by decide)]) ?_
  refine e_getR (w := 190) (show decode (mC 200) 7 = .ok (.getfield 33, 3) by decide +kernel) (show pl 12 33 = some (0, 12, 6, 0) by decide +kernel) (by decide) (sh_ok hG (by decide +kernel)) (sh_rf hG (by decide +kernel)) ?_
  refine e_P (st' := [aI 197, aR 190]) (show decode (mC 200) 10 = .ok (.sipush 197, 3) by decide +kernel) rfl rfl rfl ?_
  refine e_L (L' := [some (aR 188), some (aI v1), none]) (st' := [aI v1, aI 197, aR 190]) (show decode (mC 200) 13 = .ok (.iload_n 1, 1) by decide +kernel) rfl rfl ?_
  refine e_P (st' := [aI (197 + v1), aR 190]) (show decode (mC 200) 14 = .ok (.iadd, 1) by decide +kernel) rfl rfl rfl ?_
  refine e_P (st' := [aI 1, aI (197 + v1), aR 190]) (show decode (mC 200) 15 = .ok (.iconst 1, 1) by decide +kernel) rfl rfl rfl ?_
  refine e_iast (n := 514) (show decode (mC 200) 16 = .ok (.iastore, 1) by decide +kernel) (sh_ok hG (by decide +kernel)) (sh_ln hG (by decide +kernel)) (by decide) s0 s1 ?_
  refine e_L (L' := [some (aR 188), some (aI v1), none]) (st' := [aR 188]) (show decode (mC 200) 17 = .ok (.aload_n 0, 1) by decide +kernel) rfl (by show (if 188 = 0 then none else some (_, _)) = _; rw [if_neg (by decide)]) ?_
  refine e_getR (w := 190) (show decode (mC 200) 18 = .ok (.getfield 33, 3) by decide +kernel) (show pl 12 33 = some (0, 12, 6, 0) by decide +kernel) (by decide) (sh_ok hG (by decide +kernel)) (sh_rf hG (by decide +kernel)) ?_
  refine e_P (st' := [aI 189, aR 190]) (show decode (mC 200) 21 = .ok (.sipush 189, 3) by decide +kernel) rfl rfl rfl ?_
  refine e_L (L' := [some (aR 188), some (aI v1), none]) (st' := [aI v1, aI 189, aR 190]) (show decode (mC 200) 24 = .ok (.iload_n 1, 1) by decide +kernel) rfl rfl ?_
  refine e_P (st' := [aI (189 + v1), aR 190]) (show decode (mC 200) 25 = .ok (.iadd, 1) by decide +kernel) rfl rfl rfl ?_
  refine e_P (st' := [aI (189 + v1), aR 190, aI (189 + v1), aR 190]) (show decode (mC 200) 26 = .ok (.dup2, 1) by decide +kernel) rfl rfl rfl ?_
  refine e_ialdx (n := 514) (show decode (mC 200) 27 = .ok (.iaload, 1) by decide +kernel) (sh_ok hG (by decide +kernel)) (sh_ln hG (by decide +kernel)) (by decide) s2 s3 ex1 ?_
  refine e_P (st' := [aI 1, aI x1, aI (189 + v1), aR 190]) (show decode (mC 200) 28 = .ok (.iconst 1, 1) by decide +kernel) rfl rfl rfl ?_
  refine e_P (st' := [aI (x1 + 1), aI (189 + v1), aR 190]) (show decode (mC 200) 29 = .ok (.iadd, 1) by decide +kernel) rfl rfl rfl ?_
  refine e_iast (n := 514) (show decode (mC 200) 30 = .ok (.iastore, 1) by decide +kernel) (sh_ok hG (by decide +kernel)) (sh_ln hG (by decide +kernel)) (by decide) s2 s3 ?_
  refine e_L (L' := [some (aR 188), some (aI v1), none]) (st' := [aR 188]) (show decode (mC 200) 31 = .ok (.aload_n 0, 1) by decide +kernel) rfl (by show (if 188 = 0 then none else some (_, _)) = _; rw [if_neg (by decide)]) ?_
  refine e_getR (w := 190) (show decode (mC 200) 32 = .ok (.getfield 33, 3) by decide +kernel) (show pl 12 33 = some (0, 12, 6, 0) by decide +kernel) (by decide) (sh_ok hG (by decide +kernel)) (sh_rf hG (by decide +kernel)) ?_
  refine e_P (st' := [aI 171, aR 190]) (show decode (mC 200) 35 = .ok (.sipush 171, 3) by decide +kernel) rfl rfl rfl ?_
  refine e_P (st' := [aI 171, aR 190, aI 171, aR 190]) (show decode (mC 200) 38 = .ok (.dup2, 1) by decide +kernel) rfl rfl rfl ?_
  refine e_ialdx (n := 514) (show decode (mC 200) 39 = .ok (.iaload, 1) by decide +kernel) (sh_ok hG (by decide +kernel)) (sh_ln hG (by decide +kernel)) (by decide) (by decide) (by decide) ex2 ?_
  refine e_P (st' := [aI 1, aI x2, aI 171, aR 190]) (show decode (mC 200) 40 = .ok (.iconst 1, 1) by decide +kernel) rfl rfl rfl ?_
  refine e_P (st' := [aI (x2 + 1), aI 171, aR 190]) (show decode (mC 200) 41 = .ok (.iadd, 1) by decide +kernel) rfl rfl rfl ?_
  refine e_iast (n := 514) (show decode (mC 200) 42 = .ok (.iastore, 1) by decide +kernel) (sh_ok hG (by decide +kernel)) (sh_ln hG (by decide +kernel)) (by decide) (by decide) (by decide) ?_
  exact e_vret (show decode (mC 200) 43 = .ok (.return_, 1) by decide +kernel) rfl z6
/-- SoulOfficeModel.settles(II)V, from 0 -/
theorem b201_0 (hG : Shp G) {v1 v2 x1 x2 x3 x4 x5 x6 x7 x8 : Int}
    (s0 : 0 ≤ (173 + v1))
    (s1 : (173 + v1) < 514)
    (ex1 : c 190 (173 + v1) = x1)
    (s3 : -2147483648 ≤ x1 ∧ x1 < 2147483648)
    (s4 : (x1 ≤ 0) → 0 ≤ ((205 + (8 * v1)) + v2))
    (s5 : (x1 ≤ 0) → ((205 + (8 * v1)) + v2) < 514)
    (ex2 : c 190 ((205 + (8 * v1)) + v2) = x2)
    (m7 : (x1 ≤ 0) → TM d 166 [aI 0, aI x2] (G, c) (fun r h' => T (d + 1) 201 85 [some (aR 188), some (aI v1), some (aI v2), some (aI 0), none, none] (r.toList ++ []) h' Q))
    (s8 : (0 < x1) → 0 ≤ (173 + v2))
    (s9 : (0 < x1) → (173 + v2) < 514)
    (ex3 : c 190 (173 + v2) = x3)
    (s11 : (0 < x1) → -2147483648 ≤ x3 ∧ x3 < 2147483648)
    (s12 : (0 < x1) → (x3 ≤ 0) → 0 ≤ ((205 + (8 * v1)) + v2))
    (s13 : (0 < x1) → (x3 ≤ 0) → ((205 + (8 * v1)) + v2) < 514)
    (ex4 : c 190 ((205 + (8 * v1)) + v2) = x4)
    (m15 : (0 < x1) → (x3 ≤ 0) → TM d 166 [aI 0, aI x4] (G, c) (fun r h' => T (d + 1) 201 85 [some (aR 188), some (aI v1), some (aI v2), some (aI 0), none, none] (r.toList ++ []) h' Q))
    (ex5 : c 190 (173 + v1) = x5)
    (ex6 : c 190 (173 + v2) = x6)
    (s18 : (0 < x1) → (0 < x3) → 0 ≤ (((15 + (6 * x5)) + x6) - 7))
    (s19 : (0 < x1) → (0 < x3) → (((15 + (6 * x5)) + x6) - 7) < 514)
    (ex7 : c 190 (((15 + (6 * x5)) + x6) - 7) = x7)
    (s21 : (0 < x1) → (0 < x3) → 0 ≤ ((205 + (8 * v1)) + v2))
    (s22 : (0 < x1) → (0 < x3) → ((205 + (8 * v1)) + v2) < 514)
    (ex8 : c 190 ((205 + (8 * v1)) + v2) = x8)
    (m24 : (0 < x1) → (0 < x3) → TM d 166 [aI x7, aI x8] (G, c) (fun r h' => T (d + 1) 201 85 [some (aR 188), some (aI v1), some (aI v2), some (aI x7), none, none] (r.toList ++ []) h' Q)) :
    T (d + 1) 201 0 [some (aR 188), some (aI v1), some (aI v2), none, none, none] [] (G, c) Q := by
  refine e_L (L' := [some (aR 188), some (aI v1), some (aI v2), none, none, none]) (st' := [aR 188]) (show decode (mC 201) 0 = .ok (.aload_n 0, 1) by decide +kernel) rfl (by show (if 188 = 0 then none else some (_, _)) = _; rw [if_neg (by decide)]) ?_
  refine e_getR (w := 190) (show decode (mC 201) 1 = .ok (.getfield 33, 3) by decide +kernel) (show pl 12 33 = some (0, 12, 6, 0) by decide +kernel) (by decide) (sh_ok hG (by decide +kernel)) (sh_rf hG (by decide +kernel)) ?_
  refine e_P (st' := [aI 173, aR 190]) (show decode (mC 201) 4 = .ok (.sipush 173, 3) by decide +kernel) rfl rfl rfl ?_
  refine e_L (L' := [some (aR 188), some (aI v1), some (aI v2), none, none, none]) (st' := [aI v1, aI 173, aR 190]) (show decode (mC 201) 7 = .ok (.iload_n 1, 1) by decide +kernel) rfl rfl ?_
  refine e_P (st' := [aI (173 + v1), aR 190]) (show decode (mC 201) 8 = .ok (.iadd, 1) by decide +kernel) rfl rfl rfl ?_
  refine e_ialdx (n := 514) (show decode (mC 201) 9 = .ok (.iaload, 1) by decide +kernel) (sh_ok hG (by decide +kernel)) (sh_ln hG (by decide +kernel)) (by decide) s0 s1 ex1 ?_
  refine e_le1 (t := 64) (show decode (mC 201) 10 = .ok (.ifCond .le 54, 3) by decide +kernel) (by decide) s3 (fun p1 => ?_) (fun p1 => ?_)
  · refine e_P (st' := [aI 0]) (show decode (mC 201) 64 = .ok (.iconst 0, 1) by decide +kernel) rfl rfl rfl ?_
    refine e_L (L' := [some (aR 188), some (aI v1), some (aI v2), some (aI 0), none, none]) (st' := []) (show decode (mC 201) 65 = .ok (.istore_n 3, 1) by decide +kernel) rfl rfl ?_
    refine e_L (L' := [some (aR 188), some (aI v1), some (aI v2), some (aI 0), none, none]) (st' := [aI 0]) (show decode (mC 201) 66 = .ok (.iload_n 3, 1) by decide +kernel) rfl rfl ?_
    refine e_L (L' := [some (aR 188), some (aI v1), some (aI v2), some (aI 0), none, none]) (st' := [aR 188, aI 0]) (show decode (mC 201) 67 = .ok (.aload_n 0, 1) by decide +kernel) rfl (by show (if 188 = 0 then none else some (_, _)) = _; rw [if_neg (by decide)]) ?_
    refine e_getR (w := 190) (show decode (mC 201) 68 = .ok (.getfield 33, 3) by decide +kernel) (show pl 12 33 = some (0, 12, 6, 0) by decide +kernel) (by decide) (sh_ok hG (by decide +kernel)) (sh_rf hG (by decide +kernel)) ?_
    refine e_P (st' := [aI 205, aR 190, aI 0]) (show decode (mC 201) 71 = .ok (.sipush 205, 3) by decide +kernel) rfl rfl rfl ?_
    refine e_P (st' := [aI 8, aI 205, aR 190, aI 0]) (show decode (mC 201) 74 = .ok (.bipush 8, 2) by decide +kernel) rfl rfl rfl ?_
    refine e_L (L' := [some (aR 188), some (aI v1), some (aI v2), some (aI 0), none, none]) (st' := [aI v1, aI 8, aI 205, aR 190, aI 0]) (show decode (mC 201) 76 = .ok (.iload_n 1, 1) by decide +kernel) rfl rfl ?_
    refine e_P (st' := [aI (8 * v1), aI 205, aR 190, aI 0]) (show decode (mC 201) 77 = .ok (.imul, 1) by decide +kernel) rfl rfl rfl ?_
    refine e_P (st' := [aI (205 + (8 * v1)), aR 190, aI 0]) (show decode (mC 201) 78 = .ok (.iadd, 1) by decide +kernel) rfl rfl rfl ?_
    refine e_L (L' := [some (aR 188), some (aI v1), some (aI v2), some (aI 0), none, none]) (st' := [aI v2, aI (205 + (8 * v1)), aR 190, aI 0]) (show decode (mC 201) 79 = .ok (.iload_n 2, 1) by decide +kernel) rfl rfl ?_
    refine e_P (st' := [aI ((205 + (8 * v1)) + v2), aR 190, aI 0]) (show decode (mC 201) 80 = .ok (.iadd, 1) by decide +kernel) rfl rfl rfl ?_
    refine e_ialdx (n := 514) (show decode (mC 201) 81 = .ok (.iaload, 1) by decide +kernel) (sh_ok hG (by decide +kernel)) (sh_ln hG (by decide +kernel)) (by decide) (s4 p1) (s5 p1) ex2 ?_
    exact e_S (as := [aI 0, aI x2]) (rest := []) (show decode (mC 201) 82 = .ok (.invokestatic 268, 3) by decide +kernel) (by decide +kernel) (show (decide ((2 : Nat) = mA 166) && decide (166 < q_law)) = true by decide +kernel) rfl (show (0 : Nat) ≤ 8 by decide) (show (2 : Nat) ≤ mL 166 by decide +kernel) (m7 p1)
  · refine e_L (L' := [some (aR 188), some (aI v1), some (aI v2), none, none, none]) (st' := [aR 188]) (show decode (mC 201) 13 = .ok (.aload_n 0, 1) by decide +kernel) rfl (by show (if 188 = 0 then none else some (_, _)) = _; rw [if_neg (by decide)]) ?_
    refine e_getR (w := 190) (show decode (mC 201) 14 = .ok (.getfield 33, 3) by decide +kernel) (show pl 12 33 = some (0, 12, 6, 0) by decide +kernel) (by decide) (sh_ok hG (by decide +kernel)) (sh_rf hG (by decide +kernel)) ?_
    refine e_P (st' := [aI 173, aR 190]) (show decode (mC 201) 17 = .ok (.sipush 173, 3) by decide +kernel) rfl rfl rfl ?_
    refine e_L (L' := [some (aR 188), some (aI v1), some (aI v2), none, none, none]) (st' := [aI v2, aI 173, aR 190]) (show decode (mC 201) 20 = .ok (.iload_n 2, 1) by decide +kernel) rfl rfl ?_
    refine e_P (st' := [aI (173 + v2), aR 190]) (show decode (mC 201) 21 = .ok (.iadd, 1) by decide +kernel) rfl rfl rfl ?_
    refine e_ialdx (n := 514) (show decode (mC 201) 22 = .ok (.iaload, 1) by decide +kernel) (sh_ok hG (by decide +kernel)) (sh_ln hG (by decide +kernel)) (by decide) (s8 p1) (s9 p1) ex3 ?_
    refine e_le1 (t := 64) (show decode (mC 201) 23 = .ok (.ifCond .le 41, 3) by decide +kernel) (by decide) (s11 p1) (fun p2 => ?_) (fun p2 => ?_)
    · refine e_P (st' := [aI 0]) (show decode (mC 201) 64 = .ok (.iconst 0, 1) by decide +kernel) rfl rfl rfl ?_
      refine e_L (L' := [some (aR 188), some (aI v1), some (aI v2), some (aI 0), none, none]) (st' := []) (show decode (mC 201) 65 = .ok (.istore_n 3, 1) by decide +kernel) rfl rfl ?_
      refine e_L (L' := [some (aR 188), some (aI v1), some (aI v2), some (aI 0), none, none]) (st' := [aI 0]) (show decode (mC 201) 66 = .ok (.iload_n 3, 1) by decide +kernel) rfl rfl ?_
      refine e_L (L' := [some (aR 188), some (aI v1), some (aI v2), some (aI 0), none, none]) (st' := [aR 188, aI 0]) (show decode (mC 201) 67 = .ok (.aload_n 0, 1) by decide +kernel) rfl (by show (if 188 = 0 then none else some (_, _)) = _; rw [if_neg (by decide)]) ?_
      refine e_getR (w := 190) (show decode (mC 201) 68 = .ok (.getfield 33, 3) by decide +kernel) (show pl 12 33 = some (0, 12, 6, 0) by decide +kernel) (by decide) (sh_ok hG (by decide +kernel)) (sh_rf hG (by decide +kernel)) ?_
      refine e_P (st' := [aI 205, aR 190, aI 0]) (show decode (mC 201) 71 = .ok (.sipush 205, 3) by decide +kernel) rfl rfl rfl ?_
      refine e_P (st' := [aI 8, aI 205, aR 190, aI 0]) (show decode (mC 201) 74 = .ok (.bipush 8, 2) by decide +kernel) rfl rfl rfl ?_
      refine e_L (L' := [some (aR 188), some (aI v1), some (aI v2), some (aI 0), none, none]) (st' := [aI v1, aI 8, aI 205, aR 190, aI 0]) (show decode (mC 201) 76 = .ok (.iload_n 1, 1) by decide +kernel) rfl rfl ?_
      refine e_P (st' := [aI (8 * v1), aI 205, aR 190, aI 0]) (show decode (mC 201) 77 = .ok (.imul, 1) by decide +kernel) rfl rfl rfl ?_
      refine e_P (st' := [aI (205 + (8 * v1)), aR 190, aI 0]) (show decode (mC 201) 78 = .ok (.iadd, 1) by decide +kernel) rfl rfl rfl ?_
      refine e_L (L' := [some (aR 188), some (aI v1), some (aI v2), some (aI 0), none, none]) (st' := [aI v2, aI (205 + (8 * v1)), aR 190, aI 0]) (show decode (mC 201) 79 = .ok (.iload_n 2, 1) by decide +kernel) rfl rfl ?_
      refine e_P (st' := [aI ((205 + (8 * v1)) + v2), aR 190, aI 0]) (show decode (mC 201) 80 = .ok (.iadd, 1) by decide +kernel) rfl rfl rfl ?_
      refine e_ialdx (n := 514) (show decode (mC 201) 81 = .ok (.iaload, 1) by decide +kernel) (sh_ok hG (by decide +kernel)) (sh_ln hG (by decide +kernel)) (by decide) (s12 p1 p2) (s13 p1 p2) ex4 ?_
      exact e_S (as := [aI 0, aI x4]) (rest := []) (show decode (mC 201) 82 = .ok (.invokestatic 268, 3) by decide +kernel) (by decide +kernel) (show (decide ((2 : Nat) = mA 166) && decide (166 < q_law)) = true by decide +kernel) rfl (show (0 : Nat) ≤ 8 by decide) (show (2 : Nat) ≤ mL 166 by decide +kernel) (m15 p1 p2)
    · refine e_L (L' := [some (aR 188), some (aI v1), some (aI v2), none, none, none]) (st' := [aR 188]) (show decode (mC 201) 26 = .ok (.aload_n 0, 1) by decide +kernel) rfl (by show (if 188 = 0 then none else some (_, _)) = _; rw [if_neg (by decide)]) ?_
      refine e_getR (w := 190) (show decode (mC 201) 27 = .ok (.getfield 33, 3) by decide +kernel) (show pl 12 33 = some (0, 12, 6, 0) by decide +kernel) (by decide) (sh_ok hG (by decide +kernel)) (sh_rf hG (by decide +kernel)) ?_
      refine e_P (st' := [aI 15, aR 190]) (show decode (mC 201) 30 = .ok (.bipush 15, 2) by decide +kernel) rfl rfl rfl ?_
      refine e_P (st' := [aI 6, aI 15, aR 190]) (show decode (mC 201) 32 = .ok (.bipush 6, 2) by decide +kernel) rfl rfl rfl ?_
      refine e_L (L' := [some (aR 188), some (aI v1), some (aI v2), none, none, none]) (st' := [aR 188, aI 6, aI 15, aR 190]) (show decode (mC 201) 34 = .ok (.aload_n 0, 1) by decide +kernel) rfl (by show (if 188 = 0 then none else some (_, _)) = _; rw [if_neg (by decide)]) ?_
      refine e_getR (w := 190) (show decode (mC 201) 35 = .ok (.getfield 33, 3) by decide +kernel) (show pl 12 33 = some (0, 12, 6, 0) by decide +kernel) (by decide) (sh_ok hG (by decide +kernel)) (sh_rf hG (by decide +kernel)) ?_
      refine e_P (st' := [aI 173, aR 190, aI 6, aI 15, aR 190]) (show decode (mC 201) 38 = .ok (.sipush 173, 3) by decide +kernel) rfl rfl rfl ?_
      refine e_L (L' := [some (aR 188), some (aI v1), some (aI v2), none, none, none]) (st' := [aI v1, aI 173, aR 190, aI 6, aI 15, aR 190]) (show decode (mC 201) 41 = .ok (.iload_n 1, 1) by decide +kernel) rfl rfl ?_
      refine e_P (st' := [aI (173 + v1), aR 190, aI 6, aI 15, aR 190]) (show decode (mC 201) 42 = .ok (.iadd, 1) by decide +kernel) rfl rfl rfl ?_
      refine e_ialdx (n := 514) (show decode (mC 201) 43 = .ok (.iaload, 1) by decide +kernel) (sh_ok hG (by decide +kernel)) (sh_ln hG (by decide +kernel)) (by decide) s0 s1 ex5 ?_
      refine e_P (st' := [aI (6 * x5), aI 15, aR 190]) (show decode (mC 201) 44 = .ok (.imul, 1) by decide +kernel) rfl rfl rfl ?_
      refine e_P (st' := [aI (15 + (6 * x5)), aR 190]) (show decode (mC 201) 45 = .ok (.iadd, 1) by decide +kernel) rfl rfl rfl ?_
      refine e_L (L' := [some (aR 188), some (aI v1), some (aI v2), none, none, none]) (st' := [aR 188, aI (15 + (6 * x5)), aR 190]) (show decode (mC 201) 46 = .ok (.aload_n 0, 1) by decide +kernel) rfl (by show (if 188 = 0 then none else some (_, _)) = _; rw [if_neg (by decide)]) ?_
      refine e_getR (w := 190) (show decode (mC 201) 47 = .ok (.getfield 33, 3) by decide +kernel) (show pl 12 33 = some (0, 12, 6, 0) by decide +kernel) (by decide) (sh_ok hG (by decide +kernel)) (sh_rf hG (by decide +kernel)) ?_
      refine e_P (st' := [aI 173, aR 190, aI (15 + (6 * x5)), aR 190]) (show decode (mC 201) 50 = .ok (.sipush 173, 3) by decide +kernel) rfl rfl rfl ?_
      refine e_L (L' := [some (aR 188), some (aI v1), some (aI v2), none, none, none]) (st' := [aI v2, aI 173, aR 190, aI (15 + (6 * x5)), aR 190]) (show decode (mC 201) 53 = .ok (.iload_n 2, 1) by decide +kernel) rfl rfl ?_
      refine e_P (st' := [aI (173 + v2), aR 190, aI (15 + (6 * x5)), aR 190]) (show decode (mC 201) 54 = .ok (.iadd, 1) by decide +kernel) rfl rfl rfl ?_
      refine e_ialdx (n := 514) (show decode (mC 201) 55 = .ok (.iaload, 1) by decide +kernel) (sh_ok hG (by decide +kernel)) (sh_ln hG (by decide +kernel)) (by decide) (s8 p1) (s9 p1) ex6 ?_
      refine e_P (st' := [aI ((15 + (6 * x5)) + x6), aR 190]) (show decode (mC 201) 56 = .ok (.iadd, 1) by decide +kernel) rfl rfl rfl ?_
      refine e_P (st' := [aI 7, aI ((15 + (6 * x5)) + x6), aR 190]) (show decode (mC 201) 57 = .ok (.bipush 7, 2) by decide +kernel) rfl rfl rfl ?_
      refine e_P (st' := [aI (((15 + (6 * x5)) + x6) - 7), aR 190]) (show decode (mC 201) 59 = .ok (.isub, 1) by decide +kernel) rfl rfl rfl ?_
      refine e_ialdx (n := 514) (show decode (mC 201) 60 = .ok (.iaload, 1) by decide +kernel) (sh_ok hG (by decide +kernel)) (sh_ln hG (by decide +kernel)) (by decide) (s18 p1 p2) (s19 p1 p2) ex7 ?_
      refine e_go (t := 65) (show decode (mC 201) 61 = .ok (.goto 4, 3) by decide +kernel) (by decide) ?_
      refine e_L (L' := [some (aR 188), some (aI v1), some (aI v2), some (aI x7), none, none]) (st' := []) (show decode (mC 201) 65 = .ok (.istore_n 3, 1) by decide +kernel) rfl rfl ?_
      refine e_L (L' := [some (aR 188), some (aI v1), some (aI v2), some (aI x7), none, none]) (st' := [aI x7]) (show decode (mC 201) 66 = .ok (.iload_n 3, 1) by decide +kernel) rfl rfl ?_
      refine e_L (L' := [some (aR 188), some (aI v1), some (aI v2), some (aI x7), none, none]) (st' := [aR 188, aI x7]) (show decode (mC 201) 67 = .ok (.aload_n 0, 1) by decide +kernel) rfl (by show (if 188 = 0 then none else some (_, _)) = _; rw [if_neg (by decide)]) ?_
      refine e_getR (w := 190) (show decode (mC 201) 68 = .ok (.getfield 33, 3) by decide +kernel) (show pl 12 33 = some (0, 12, 6, 0) by decide +kernel) (by decide) (sh_ok hG (by decide +kernel)) (sh_rf hG (by decide +kernel)) ?_
      refine e_P (st' := [aI 205, aR 190, aI x7]) (show decode (mC 201) 71 = .ok (.sipush 205, 3) by decide +kernel) rfl rfl rfl ?_
      refine e_P (st' := [aI 8, aI 205, aR 190, aI x7]) (show decode (mC 201) 74 = .ok (.bipush 8, 2) by decide +kernel) rfl rfl rfl ?_
      refine e_L (L' := [some (aR 188), some (aI v1), some (aI v2), some (aI x7), none, none]) (st' := [aI v1, aI 8, aI 205, aR 190, aI x7]) (show decode (mC 201) 76 = .ok (.iload_n 1, 1) by decide +kernel) rfl rfl ?_
      refine e_P (st' := [aI (8 * v1), aI 205, aR 190, aI x7]) (show decode (mC 201) 77 = .ok (.imul, 1) by decide +kernel) rfl rfl rfl ?_
      refine e_P (st' := [aI (205 + (8 * v1)), aR 190, aI x7]) (show decode (mC 201) 78 = .ok (.iadd, 1) by decide +kernel) rfl rfl rfl ?_
      refine e_L (L' := [some (aR 188), some (aI v1), some (aI v2), some (aI x7), none, none]) (st' := [aI v2, aI (205 + (8 * v1)), aR 190, aI x7]) (show decode (mC 201) 79 = .ok (.iload_n 2, 1) by decide +kernel) rfl rfl ?_
      refine e_P (st' := [aI ((205 + (8 * v1)) + v2), aR 190, aI x7]) (show decode (mC 201) 80 = .ok (.iadd, 1) by decide +kernel) rfl rfl rfl ?_
      refine e_ialdx (n := 514) (show decode (mC 201) 81 = .ok (.iaload, 1) by decide +kernel) (sh_ok hG (by decide +kernel)) (sh_ln hG (by decide +kernel)) (by decide) (s21 p1 p2) (s22 p1 p2) ex8 ?_
      exact e_S (as := [aI x7, aI x8]) (rest := []) (show decode (mC 201) 82 = .ok (.invokestatic 268, 3) by decide +kernel) (by decide +kernel) (show (decide ((2 : Nat) = mA 166) && decide (166 < q_law)) = true by decide +kernel) rfl (show (0 : Nat) ≤ 8 by decide) (show (2 : Nat) ≤ mL 166 by decide +kernel) (m24 p1 p2)
/-- SoulOfficeModel.settles(II)V, from 85 -/
theorem b201_85 (hG : Shp G) {v1 v2 v3 u0 x1 : Int} (hQ : ∀ o o' h', q_eqo o o' → Q o h' → Q o' h')
    (s0 : 0 ≤ ((205 + (8 * v2)) + v1))
    (s1 : ((205 + (8 * v2)) + v1) < 514)
    (ex1 : c 190 ((205 + (8 * v2)) + v1) = x1)
    (m3 : TM d 166 [aI (v3 - u0), aI x1] (G, c) (fun r h' => T (d + 1) 201 109 [some (aR 188), some (aI v1), some (aI v2), none, some (aI u0), none] (r.toList ++ []) h' Q)) :
    T (d + 1) 201 85 [some (aR 188), some (aI v1), some (aI v2), some (aI v3), none, none] [aI u0] (G, c) Q := by
  refine e_L (L' := [some (aR 188), some (aI v1), some (aI v2), some (aI v3), some (aI u0), none]) (st' := []) (show decode (mC 201) 85 = .ok (.istore 4, 2) by decide +kernel) rfl rfl ?_
  refine e_L (L' := [some (aR 188), some (aI v1), some (aI v2), some (aI v3), some (aI u0), none]) (st' := [aI v3]) (show decode (mC 201) 87 = .ok (.iload_n 3, 1) by decide +kernel) rfl rfl ?_
  refine e_L (L' := [some (aR 188), some (aI v1), some (aI v2), some (aI v3), some (aI u0), none]) (st' := [aI u0, aI v3]) (show decode (mC 201) 88 = .ok (.iload 4, 2) by decide +kernel) rfl rfl ?_
  refine e_P (st' := [aI (v3 - u0)]) (show decode (mC 201) 90 = .ok (.isub, 1) by decide +kernel) rfl rfl rfl ?_
  refine e_L (L' := [some (aR 188), some (aI v1), some (aI v2), some (aI v3), some (aI u0), none]) (st' := [aR 188, aI (v3 - u0)]) (show decode (mC 201) 91 = .ok (.aload_n 0, 1) by decide +kernel) rfl (by show (if 188 = 0 then none else some (_, _)) = _; rw [if_neg (by decide)]) ?_
  refine e_getR (w := 190) (show decode (mC 201) 92 = .ok (.getfield 33, 3) by decide +kernel) (show pl 12 33 = some (0, 12, 6, 0) by decide +kernel) (by decide) (sh_ok hG (by decide +kernel)) (sh_rf hG (by decide +kernel)) ?_
  refine e_P (st' := [aI 205, aR 190, aI (v3 - u0)]) (show decode (mC 201) 95 = .ok (.sipush 205, 3) by decide +kernel) rfl rfl rfl ?_
  refine e_P (st' := [aI 8, aI 205, aR 190, aI (v3 - u0)]) (show decode (mC 201) 98 = .ok (.bipush 8, 2) by decide +kernel) rfl rfl rfl ?_
  refine e_L (L' := [some (aR 188), some (aI v1), some (aI v2), some (aI v3), some (aI u0), none]) (st' := [aI v2, aI 8, aI 205, aR 190, aI (v3 - u0)]) (show decode (mC 201) 100 = .ok (.iload_n 2, 1) by decide +kernel) rfl rfl ?_
  refine e_P (st' := [aI (8 * v2), aI 205, aR 190, aI (v3 - u0)]) (show decode (mC 201) 101 = .ok (.imul, 1) by decide +kernel) rfl rfl rfl ?_
  refine e_P (st' := [aI (205 + (8 * v2)), aR 190, aI (v3 - u0)]) (show decode (mC 201) 102 = .ok (.iadd, 1) by decide +kernel) rfl rfl rfl ?_
  refine e_L (L' := [some (aR 188), some (aI v1), some (aI v2), some (aI v3), some (aI u0), none]) (st' := [aI v1, aI (205 + (8 * v2)), aR 190, aI (v3 - u0)]) (show decode (mC 201) 103 = .ok (.iload_n 1, 1) by decide +kernel) rfl rfl ?_
  refine e_P (st' := [aI ((205 + (8 * v2)) + v1), aR 190, aI (v3 - u0)]) (show decode (mC 201) 104 = .ok (.iadd, 1) by decide +kernel) rfl rfl rfl ?_
  refine e_ialdx (n := 514) (show decode (mC 201) 105 = .ok (.iaload, 1) by decide +kernel) (sh_ok hG (by decide +kernel)) (sh_ln hG (by decide +kernel)) (by decide) s0 s1 ex1 ?_
  exact e_S (as := [aI (v3 - u0), aI x1]) (rest := []) (show decode (mC 201) 106 = .ok (.invokestatic 268, 3) by decide +kernel) (by decide +kernel) (show (decide ((2 : Nat) = mA 166) && decide (166 < q_law)) = true by decide +kernel) rfl (show (0 : Nat) ≤ 8 by decide) (show (2 : Nat) ≤ mL 166 by decide +kernel) (tm_le hQ (leS (leS (leS (leN (leS (leS leE)))))) m3)
/-- SoulOfficeModel.settles(II)V, from 109 -/
theorem b201_109 (hG : Shp G) {v1 v2 v4 u0 x1 x2 x3 : Int}
    (s0 : 0 ≤ ((205 + (8 * v1)) + v2))
    (s1 : ((205 + (8 * v1)) + v2) < 514)
    (ex1 : c 190 ((205 + (8 * v1)) + v2) = x1)
    (s3 : 0 ≤ ((205 + (8 * v2)) + v1))
    (s4 : ((205 + (8 * v2)) + v1) < 514)
    (ex2 : (q_up c 190 ((205 + (8 * v1)) + v2) (x1 - v4)) 190 ((205 + (8 * v2)) + v1) = x2)
    (s6 : 0 ≤ ((269 + (8 * v1)) + v2))
    (s7 : ((269 + (8 * v1)) + v2) < 514)
    (s8 : 0 ≤ ((269 + (8 * v2)) + v1))
    (s9 : ((269 + (8 * v2)) + v1) < 514)
    (ex3 : (q_up (q_up (q_up (q_up c 190 ((205 + (8 * v1)) + v2) (x1 - v4)) 190 ((205 + (8 * v2)) + v1) (x2 - u0)) 190 ((269 + (8 * v1)) + v2) (v4 + u0)) 190 ((269 + (8 * v2)) + v1) (v4 + u0)) 190 169 = x3)
    (z11 : Q (.inl none) (G, (q_up (q_up (q_up (q_up (q_up c 190 ((205 + (8 * v1)) + v2) (x1 - v4)) 190 ((205 + (8 * v2)) + v1) (x2 - u0)) 190 ((269 + (8 * v1)) + v2) (v4 + u0)) 190 ((269 + (8 * v2)) + v1) (v4 + u0)) 190 169 (x3 + (v4 + u0))))) :
    T (d + 1) 201 109 [some (aR 188), some (aI v1), some (aI v2), none, some (aI v4), none] [aI u0] (G, c) Q := by
  refine e_L (L' := [some (aR 188), some (aI v1), some (aI v2), none, some (aI v4), some (aI u0)]) (st' := []) (show decode (mC 201) 109 = .ok (.istore 5, 2) by decide +kernel) rfl rfl ?_
  refine e_L (L' := [some (aR 188), some (aI v1), some (aI v2), none, some (aI v4), some (aI u0)]) (st' := [aR 188]) (show decode (mC 201) 111 = .ok (.aload_n 0, 1) by decide +kernel) rfl (by show (if 188 = 0 then none else some (_, _)) = _; rw [if_neg (by decide)]) ?_
  refine e_getR (w := 190) (show decode (mC 201) 112 = .ok (.getfield 33, 3) by decide +kernel) (show pl 12 33 = some (0, 12, 6, 0) by decide +kernel) (by decide) (sh_ok hG (by decide +kernel)) (sh_rf hG (by decide +kernel)) ?_
  refine e_P (st' := [aI 205, aR 190]) (show decode (mC 201) 115 = .ok (.sipush 205, 3) by decide +kernel) rfl rfl rfl ?_
  refine e_P (st' := [aI 8, aI 205, aR 190]) (show decode (mC 201) 118 = .ok (.bipush 8, 2) by decide +kernel) rfl rfl rfl ?_
  refine e_L (L' := [some (aR 188), some (aI v1), some (aI v2), none, some (aI v4), some (aI u0)]) (st' := [aI v1, aI 8, aI 205, aR 190]) (show decode (mC 201) 120 = .ok (.iload_n 1, 1) by decide +kernel) rfl rfl ?_
  refine e_P (st' := [aI (8 * v1), aI 205, aR 190]) (show decode (mC 201) 121 = .ok (.imul, 1) by decide +kernel) rfl rfl rfl ?_
  refine e_P (st' := [aI (205 + (8 * v1)), aR 190]) (show decode (mC 201) 122 = .ok (.iadd, 1) by decide +kernel) rfl rfl rfl ?_
  refine e_L (L' := [some (aR 188), some (aI v1), some (aI v2), none, some (aI v4), some (aI u0)]) (st' := [aI v2, aI (205 + (8 * v1)), aR 190]) (show decode (mC 201) 123 = .ok (.iload_n 2, 1) by decide +kernel) rfl rfl ?_
  refine e_P (st' := [aI ((205 + (8 * v1)) + v2), aR 190]) (show decode (mC 201) 124 = .ok (.iadd, 1) by decide +kernel) rfl rfl rfl ?_
  refine e_P (st' := [aI ((205 + (8 * v1)) + v2), aR 190, aI ((205 + (8 * v1)) + v2), aR 190]) (show decode (mC 201) 125 = .ok (.dup2, 1) by decide +kernel) rfl rfl rfl ?_
  refine e_ialdx (n := 514) (show decode (mC 201) 126 = .ok (.iaload, 1) by decide +kernel) (sh_ok hG (by decide +kernel)) (sh_ln hG (by decide +kernel)) (by decide) s0 s1 ex1 ?_
  refine e_L (L' := [some (aR 188), some (aI v1), some (aI v2), none, some (aI v4), some (aI u0)]) (st' := [aI v4, aI x1, aI ((205 + (8 * v1)) + v2), aR 190]) (show decode (mC 201) 127 = .ok (.iload 4, 2) by decide +kernel) rfl rfl ?_
  refine e_P (st' := [aI (x1 - v4), aI ((205 + (8 * v1)) + v2), aR 190]) (show decode (mC 201) 129 = .ok (.isub, 1) by decide +kernel) rfl rfl rfl ?_
  refine e_iast (n := 514) (show decode (mC 201) 130 = .ok (.iastore, 1) by decide +kernel) (sh_ok hG (by decide +kernel)) (sh_ln hG (by decide +kernel)) (by decide) s0 s1 ?_
  refine e_L (L' := [some (aR 188), some (aI v1), some (aI v2), none, some (aI v4), some (aI u0)]) (st' := [aR 188]) (show decode (mC 201) 131 = .ok (.aload_n 0, 1) by decide +kernel) rfl (by show (if 188 = 0 then none else some (_, _)) = _; rw [if_neg (by decide)]) ?_
  refine e_getR (w := 190) (show decode (mC 201) 132 = .ok (.getfield 33, 3) by decide +kernel) (show pl 12 33 = some (0, 12, 6, 0) by decide +kernel) (by decide) (sh_ok hG (by decide +kernel)) (sh_rf hG (by decide +kernel)) ?_
  refine e_P (st' := [aI 205, aR 190]) (show decode (mC 201) 135 = .ok (.sipush 205, 3) by decide +kernel) rfl rfl rfl ?_
  refine e_P (st' := [aI 8, aI 205, aR 190]) (show decode (mC 201) 138 = .ok (.bipush 8, 2) by decide +kernel) rfl rfl rfl ?_
  refine e_L (L' := [some (aR 188), some (aI v1), some (aI v2), none, some (aI v4), some (aI u0)]) (st' := [aI v2, aI 8, aI 205, aR 190]) (show decode (mC 201) 140 = .ok (.iload_n 2, 1) by decide +kernel) rfl rfl ?_
  refine e_P (st' := [aI (8 * v2), aI 205, aR 190]) (show decode (mC 201) 141 = .ok (.imul, 1) by decide +kernel) rfl rfl rfl ?_
  refine e_P (st' := [aI (205 + (8 * v2)), aR 190]) (show decode (mC 201) 142 = .ok (.iadd, 1) by decide +kernel) rfl rfl rfl ?_
  refine e_L (L' := [some (aR 188), some (aI v1), some (aI v2), none, some (aI v4), some (aI u0)]) (st' := [aI v1, aI (205 + (8 * v2)), aR 190]) (show decode (mC 201) 143 = .ok (.iload_n 1, 1) by decide +kernel) rfl rfl ?_
  refine e_P (st' := [aI ((205 + (8 * v2)) + v1), aR 190]) (show decode (mC 201) 144 = .ok (.iadd, 1) by decide +kernel) rfl rfl rfl ?_
  refine e_P (st' := [aI ((205 + (8 * v2)) + v1), aR 190, aI ((205 + (8 * v2)) + v1), aR 190]) (show decode (mC 201) 145 = .ok (.dup2, 1) by decide +kernel) rfl rfl rfl ?_
  refine e_ialdx (n := 514) (show decode (mC 201) 146 = .ok (.iaload, 1) by decide +kernel) (sh_ok hG (by decide +kernel)) (sh_ln hG (by decide +kernel)) (by decide) s3 s4 ex2 ?_
  refine e_L (L' := [some (aR 188), some (aI v1), some (aI v2), none, some (aI v4), some (aI u0)]) (st' := [aI u0, aI x2, aI ((205 + (8 * v2)) + v1), aR 190]) (show decode (mC 201) 147 = .ok (.iload 5, 2) by decide +kernel) rfl rfl ?_
  refine e_P (st' := [aI (x2 - u0), aI ((205 + (8 * v2)) + v1), aR 190]) (show decode (mC 201) 149 = .ok (.isub, 1) by decide +kernel) rfl rfl rfl ?_
  refine e_iast (n := 514) (show decode (mC 201) 150 = .ok (.iastore, 1) by decide +kernel) (sh_ok hG (by decide +kernel)) (sh_ln hG (by decide +kernel)) (by decide) s3 s4 ?_
  refine e_L (L' := [some (aR 188), some (aI v1), some (aI v2), none, some (aI v4), some (aI u0)]) (st' := [aR 188]) (show decode (mC 201) 151 = .ok (.aload_n 0, 1) by decide +kernel) rfl (by show (if 188 = 0 then none else some (_, _)) = _; rw [if_neg (by decide)]) ?_
  refine e_getR (w := 190) (show decode (mC 201) 152 = .ok (.getfield 33, 3) by decide +kernel) (show pl 12 33 = some (0, 12, 6, 0) by decide +kernel) (by decide) (sh_ok hG (by decide +kernel)) (sh_rf hG (by decide +kernel)) ?_
  refine e_P (st' := [aI 269, aR 190]) (show decode (mC 201) 155 = .ok (.sipush 269, 3) by decide +kernel) rfl rfl rfl ?_
  refine e_P (st' := [aI 8, aI 269, aR 190]) (show decode (mC 201) 158 = .ok (.bipush 8, 2) by decide +kernel) rfl rfl rfl ?_
  refine e_L (L' := [some (aR 188), some (aI v1), some (aI v2), none, some (aI v4), some (aI u0)]) (st' := [aI v1, aI 8, aI 269, aR 190]) (show decode (mC 201) 160 = .ok (.iload_n 1, 1) by decide +kernel) rfl rfl ?_
  refine e_P (st' := [aI (8 * v1), aI 269, aR 190]) (show decode (mC 201) 161 = .ok (.imul, 1) by decide +kernel) rfl rfl rfl ?_
  refine e_P (st' := [aI (269 + (8 * v1)), aR 190]) (show decode (mC 201) 162 = .ok (.iadd, 1) by decide +kernel) rfl rfl rfl ?_
  refine e_L (L' := [some (aR 188), some (aI v1), some (aI v2), none, some (aI v4), some (aI u0)]) (st' := [aI v2, aI (269 + (8 * v1)), aR 190]) (show decode (mC 201) 163 = .ok (.iload_n 2, 1) by decide +kernel) rfl rfl ?_
  refine e_P (st' := [aI ((269 + (8 * v1)) + v2), aR 190]) (show decode (mC 201) 164 = .ok (.iadd, 1) by decide +kernel) rfl rfl rfl ?_
  refine e_L (L' := [some (aR 188), some (aI v1), some (aI v2), none, some (aI v4), some (aI u0)]) (st' := [aI v4, aI ((269 + (8 * v1)) + v2), aR 190]) (show decode (mC 201) 165 = .ok (.iload 4, 2) by decide +kernel) rfl rfl ?_
  refine e_L (L' := [some (aR 188), some (aI v1), some (aI v2), none, some (aI v4), some (aI u0)]) (st' := [aI u0, aI v4, aI ((269 + (8 * v1)) + v2), aR 190]) (show decode (mC 201) 167 = .ok (.iload 5, 2) by decide +kernel) rfl rfl ?_
  refine e_P (st' := [aI (v4 + u0), aI ((269 + (8 * v1)) + v2), aR 190]) (show decode (mC 201) 169 = .ok (.iadd, 1) by decide +kernel) rfl rfl rfl ?_
  refine e_iast (n := 514) (show decode (mC 201) 170 = .ok (.iastore, 1) by decide +kernel) (sh_ok hG (by decide +kernel)) (sh_ln hG (by decide +kernel)) (by decide) s6 s7 ?_
  refine e_L (L' := [some (aR 188), some (aI v1), some (aI v2), none, some (aI v4), some (aI u0)]) (st' := [aR 188]) (show decode (mC 201) 171 = .ok (.aload_n 0, 1) by decide +kernel) rfl (by show (if 188 = 0 then none else some (_, _)) = _; rw [if_neg (by decide)]) ?_
  refine e_getR (w := 190) (show decode (mC 201) 172 = .ok (.getfield 33, 3) by decide +kernel) (show pl 12 33 = some (0, 12, 6, 0) by decide +kernel) (by decide) (sh_ok hG (by decide +kernel)) (sh_rf hG (by decide +kernel)) ?_
  refine e_P (st' := [aI 269, aR 190]) (show decode (mC 201) 175 = .ok (.sipush 269, 3) by decide +kernel) rfl rfl rfl ?_
  refine e_P (st' := [aI 8, aI 269, aR 190]) (show decode (mC 201) 178 = .ok (.bipush 8, 2) by decide +kernel) rfl rfl rfl ?_
  refine e_L (L' := [some (aR 188), some (aI v1), some (aI v2), none, some (aI v4), some (aI u0)]) (st' := [aI v2, aI 8, aI 269, aR 190]) (show decode (mC 201) 180 = .ok (.iload_n 2, 1) by decide +kernel) rfl rfl ?_
  refine e_P (st' := [aI (8 * v2), aI 269, aR 190]) (show decode (mC 201) 181 = .ok (.imul, 1) by decide +kernel) rfl rfl rfl ?_
  refine e_P (st' := [aI (269 + (8 * v2)), aR 190]) (show decode (mC 201) 182 = .ok (.iadd, 1) by decide +kernel) rfl rfl rfl ?_
  refine e_L (L' := [some (aR 188), some (aI v1), some (aI v2), none, some (aI v4), some (aI u0)]) (st' := [aI v1, aI (269 + (8 * v2)), aR 190]) (show decode (mC 201) 183 = .ok (.iload_n 1, 1) by decide +kernel) rfl rfl ?_
  refine e_P (st' := [aI ((269 + (8 * v2)) + v1), aR 190]) (show decode (mC 201) 184 = .ok (.iadd, 1) by decide +kernel) rfl rfl rfl ?_
  refine e_L (L' := [some (aR 188), some (aI v1), some (aI v2), none, some (aI v4), some (aI u0)]) (st' := [aI v4, aI ((269 + (8 * v2)) + v1), aR 190]) (show decode (mC 201) 185 = .ok (.iload 4, 2) by decide +kernel) rfl rfl ?_
  refine e_L (L' := [some (aR 188), some (aI v1), some (aI v2), none, some (aI v4), some (aI u0)]) (st' := [aI u0, aI v4, aI ((269 + (8 * v2)) + v1), aR 190]) (show decode (mC 201) 187 = .ok (.iload 5, 2) by decide +kernel) rfl rfl ?_
  refine e_P (st' := [aI (v4 + u0), aI ((269 + (8 * v2)) + v1), aR 190]) (show decode (mC 201) 189 = .ok (.iadd, 1) by decide +kernel) rfl rfl rfl ?_
  refine e_iast (n := 514) (show decode (mC 201) 190 = .ok (.iastore, 1) by decide +kernel) (sh_ok hG (by decide +kernel)) (sh_ln hG (by decide +kernel)) (by decide) s8 s9 ?_
  refine e_L (L' := [some (aR 188), some (aI v1), some (aI v2), none, some (aI v4), some (aI u0)]) (st' := [aR 188]) (show decode (mC 201) 191 = .ok (.aload_n 0, 1) by decide +kernel) rfl (by show (if 188 = 0 then none else some (_, _)) = _; rw [if_neg (by decide)]) ?_
  refine e_getR (w := 190) (show decode (mC 201) 192 = .ok (.getfield 33, 3) by decide +kernel) (show pl 12 33 = some (0, 12, 6, 0) by decide +kernel) (by decide) (sh_ok hG (by decide +kernel)) (sh_rf hG (by decide +kernel)) ?_
  refine e_P (st' := [aI 169, aR 190]) (show decode (mC 201) 195 = .ok (.sipush 169, 3) by decide +kernel) rfl rfl rfl ?_
  refine e_P (st' := [aI 169, aR 190, aI 169, aR 190]) (show decode (mC 201) 198 = .ok (.dup2, 1) by decide +kernel) rfl rfl rfl ?_
  refine e_ialdx (n := 514) (show decode (mC 201) 199 = .ok (.iaload, 1) by decide +kernel) (sh_ok hG (by decide +kernel)) (sh_ln hG (by decide +kernel)) (by decide) (by decide) (by decide) ex3 ?_
  refine e_L (L' := [some (aR 188), some (aI v1), some (aI v2), none, some (aI v4), some (aI u0)]) (st' := [aI v4, aI x3, aI 169, aR 190]) (show decode (mC 201) 200 = .ok (.iload 4, 2) by decide +kernel) rfl rfl ?_
  refine e_L (L' := [some (aR 188), some (aI v1), some (aI v2), none, some (aI v4), some (aI u0)]) (st' := [aI u0, aI v4, aI x3, aI 169, aR 190]) (show decode (mC 201) 202 = .ok (.iload 5, 2) by decide +kernel) rfl rfl ?_
  refine e_P (st' := [aI (v4 + u0), aI x3, aI 169, aR 190]) (show decode (mC 201) 204 = .ok (.iadd, 1) by decide +kernel) rfl rfl rfl ?_
  refine e_P (st' := [aI (x3 + (v4 + u0)), aI 169, aR 190]) (show decode (mC 201) 205 = .ok (.iadd, 1) by decide +kernel) rfl rfl rfl ?_
  refine e_iast (n := 514) (show decode (mC 201) 206 = .ok (.iastore, 1) by decide +kernel) (sh_ok hG (by decide +kernel)) (sh_ln hG (by decide +kernel)) (by decide) (by decide) (by decide) ?_
  exact e_vret (show decode (mC 201) 207 = .ok (.return_, 1) by decide +kernel) rfl z11
/-- SoulOfficeModel.day()V, from 0 -/
theorem b202_0 (hG : Shp G)
    (k0 : T (d + 1) 202 2 [some (aR 188), some (aI 0), none] [] (G, c) Q) :
    T (d + 1) 202 0 [some (aR 188), none, none] [] (G, c) Q := by
  refine e_P (st' := [aI 0]) (show decode (mC 202) 0 = .ok (.iconst 0, 1) by decide +kernel) rfl rfl rfl ?_
  refine e_L (L' := [some (aR 188), some (aI 0), none]) (st' := []) (show decode (mC 202) 1 = .ok (.istore_n 1, 1) by decide +kernel) rfl rfl ?_
  exact k0
/-- SoulOfficeModel.day()V, from 2 -/
theorem b202_2 (hG : Shp G) {v1 x1 : Int}
    (ex1 : c 190 1 = x1)
    (s1 : -2147483648 ≤ v1 ∧ v1 < 2147483648)
    (s2 : -2147483648 ≤ x1 ∧ x1 < 2147483648)
    (k3 : (x1 ≤ v1) → T (d + 1) 202 46 [some (aR 188), some (aI 0), none] [] (G, c) Q)
    (k4 : (v1 < x1) → T (d + 1) 202 16 [some (aR 188), some (aI v1), some (aI (v1 + 1))] [] (G, c) Q) :
    T (d + 1) 202 2 [some (aR 188), some (aI v1), none] [] (G, c) Q := by
  refine e_L (L' := [some (aR 188), some (aI v1), none]) (st' := [aI v1]) (show decode (mC 202) 2 = .ok (.iload_n 1, 1) by decide +kernel) rfl rfl ?_
  refine e_L (L' := [some (aR 188), some (aI v1), none]) (st' := [aR 188, aI v1]) (show decode (mC 202) 3 = .ok (.aload_n 0, 1) by decide +kernel) rfl (by show (if 188 = 0 then none else some (_, _)) = _; rw [if_neg (by decide)]) ?_
  refine e_getR (w := 190) (show decode (mC 202) 4 = .ok (.getfield 33, 3) by decide +kernel) (show pl 12 33 = some (0, 12, 6, 0) by decide +kernel) (by decide) (sh_ok hG (by decide +kernel)) (sh_rf hG (by decide +kernel)) ?_
  refine e_P (st' := [aI 1, aR 190, aI v1]) (show decode (mC 202) 7 = .ok (.iconst 1, 1) by decide +kernel) rfl rfl rfl ?_
  refine e_ialdx (n := 514) (show decode (mC 202) 8 = .ok (.iaload, 1) by decide +kernel) (sh_ok hG (by decide +kernel)) (sh_ln hG (by decide +kernel)) (by decide) (by decide) (by decide) ex1 ?_
  refine e_ge2 (t := 44) (show decode (mC 202) 9 = .ok (.if_icmp .ge 35, 3) by decide +kernel) (by decide) s1 s2 (fun p1 => ?_) (fun p1 => ?_)
  · refine e_P (st' := [aI 0]) (show decode (mC 202) 44 = .ok (.iconst 0, 1) by decide +kernel) rfl rfl rfl ?_
    refine e_L (L' := [some (aR 188), some (aI 0), none]) (st' := []) (show decode (mC 202) 45 = .ok (.istore_n 1, 1) by decide +kernel) rfl rfl ?_
    exact (k3 p1)
  · refine e_L (L' := [some (aR 188), some (aI v1), none]) (st' := [aI v1]) (show decode (mC 202) 12 = .ok (.iload_n 1, 1) by decide +kernel) rfl rfl ?_
    refine e_P (st' := [aI 1, aI v1]) (show decode (mC 202) 13 = .ok (.iconst 1, 1) by decide +kernel) rfl rfl rfl ?_
    refine e_P (st' := [aI (v1 + 1)]) (show decode (mC 202) 14 = .ok (.iadd, 1) by decide +kernel) rfl rfl rfl ?_
    refine e_L (L' := [some (aR 188), some (aI v1), some (aI (v1 + 1))]) (st' := []) (show decode (mC 202) 15 = .ok (.istore_n 2, 1) by decide +kernel) rfl rfl ?_
    exact (k4 p1)
/-- SoulOfficeModel.day()V, from 16 -/
theorem b202_16 (hG : Shp G) {v1 v2 x1 : Int} (hQ : ∀ o o' h', q_eqo o o' → Q o h' → Q o' h')
    (ex1 : c 190 1 = x1)
    (s1 : -2147483648 ≤ v2 ∧ v2 < 2147483648)
    (s2 : -2147483648 ≤ x1 ∧ x1 < 2147483648)
    (k3 : (x1 ≤ v2) → T (d + 1) 202 2 [some (aR 188), some (aI (v1 + 1)), none] [] (G, c) Q)
    (m4 : (v2 < x1) → TM d 201 [aR 188, aI v1, aI v2] (G, c) (fun r h' => T (d + 1) 202 32 [some (aR 188), some (aI v1), some (aI v2)] (r.toList ++ []) h' Q)) :
    T (d + 1) 202 16 [some (aR 188), some (aI v1), some (aI v2)] [] (G, c) Q := by
  refine e_L (L' := [some (aR 188), some (aI v1), some (aI v2)]) (st' := [aI v2]) (show decode (mC 202) 16 = .ok (.iload_n 2, 1) by decide +kernel) rfl rfl ?_
  refine e_L (L' := [some (aR 188), some (aI v1), some (aI v2)]) (st' := [aR 188, aI v2]) (show decode (mC 202) 17 = .ok (.aload_n 0, 1) by decide +kernel) rfl (by show (if 188 = 0 then none else some (_, _)) = _; rw [if_neg (by decide)]) ?_
  refine e_getR (w := 190) (show decode (mC 202) 18 = .ok (.getfield 33, 3) by decide +kernel) (show pl 12 33 = some (0, 12, 6, 0) by decide +kernel) (by decide) (sh_ok hG (by decide +kernel)) (sh_rf hG (by decide +kernel)) ?_
  refine e_P (st' := [aI 1, aR 190, aI v2]) (show decode (mC 202) 21 = .ok (.iconst 1, 1) by decide +kernel) rfl rfl rfl ?_
  refine e_ialdx (n := 514) (show decode (mC 202) 22 = .ok (.iaload, 1) by decide +kernel) (sh_ok hG (by decide +kernel)) (sh_ln hG (by decide +kernel)) (by decide) (by decide) (by decide) ex1 ?_
  refine e_ge2 (t := 38) (show decode (mC 202) 23 = .ok (.if_icmp .ge 15, 3) by decide +kernel) (by decide) s1 s2 (fun p1 => ?_) (fun p1 => ?_)
  · refine e_L (L' := [some (aR 188), some (aI (v1 + 1)), some (aI v2)]) (st' := []) (show decode (mC 202) 38 = .ok (.iinc 1 1, 3) by decide +kernel) rfl rfl ?_
    refine e_go (t := 2) (show decode (mC 202) 41 = .ok (.goto (-39), 3) by decide +kernel) (by decide) ?_
    exact T_le hQ (leS (leS (leN leE))) (k3 p1)
  · refine e_L (L' := [some (aR 188), some (aI v1), some (aI v2)]) (st' := [aR 188]) (show decode (mC 202) 26 = .ok (.aload_n 0, 1) by decide +kernel) rfl (by show (if 188 = 0 then none else some (_, _)) = _; rw [if_neg (by decide)]) ?_
    refine e_L (L' := [some (aR 188), some (aI v1), some (aI v2)]) (st' := [aI v1, aR 188]) (show decode (mC 202) 27 = .ok (.iload_n 1, 1) by decide +kernel) rfl rfl ?_
    refine e_L (L' := [some (aR 188), some (aI v1), some (aI v2)]) (st' := [aI v2, aI v1, aR 188]) (show decode (mC 202) 28 = .ok (.iload_n 2, 1) by decide +kernel) rfl rfl ?_
    exact e_V (as := [aR 188, aI v1, aI v2]) (rest := []) (show decode (mC 202) 29 = .ok (.invokevirtual 271, 3) by decide +kernel) (by decide +kernel) (show (decide ((3 : Nat) = mA 201) && decide (201 < q_law)) = true by decide +kernel) rfl (show (0 : Nat) ≤ 8 by decide) (show (3 : Nat) ≤ mL 201 by decide +kernel) rfl (sh_ok hG (by decide +kernel)) (m4 p1)
/-- SoulOfficeModel.day()V, from 32 -/
theorem b202_32 (hG : Shp G) {v1 v2 : Int}
    (k0 : T (d + 1) 202 16 [some (aR 188), some (aI v1), some (aI (v2 + 1))] [] (G, c) Q) :
    T (d + 1) 202 32 [some (aR 188), some (aI v1), some (aI v2)] [] (G, c) Q := by
  refine e_L (L' := [some (aR 188), some (aI v1), some (aI (v2 + 1))]) (st' := []) (show decode (mC 202) 32 = .ok (.iinc 2 1, 3) by decide +kernel) rfl rfl ?_
  refine e_go (t := 16) (show decode (mC 202) 35 = .ok (.goto (-19), 3) by decide +kernel) (by decide) ?_
  exact k0
/-- SoulOfficeModel.day()V, from 46 -/
theorem b202_46 (hG : Shp G) {v1 x1 x2 x3 : Int}
    (s0 : -2147483648 ≤ v1 ∧ v1 < 2147483648)
    (k1 : (64 ≤ v1) → T (d + 1) 202 134 [some (aR 188), some (aI 0), none] [] (G, c) Q)
    (s2 : (v1 < 64) → 0 ≤ (205 + v1))
    (s3 : (v1 < 64) → (205 + v1) < 514)
    (ex1 : c 190 (205 + v1) = x1)
    (s5 : (v1 < 64) → -2147483648 ≤ x1 ∧ x1 < 2147483648)
    (ex2 : c 190 (205 + v1) = x2)
    (ex3 : c 190 2 = x3)
    (m8 : (v1 < 64) → (¬ x1 = 0) → TM d 166 [aI 99999, aI (x2 + x3)] (G, c) (fun r h' => T (d + 1) 202 91 [some (aR 188), some (aI v1), none] (r.toList ++ []) h' Q))
    (k9 : (v1 < 64) → (x1 = 0) → T (d + 1) 202 46 [some (aR 188), some (aI (v1 + 1)), none] [] (G, c) Q) :
    T (d + 1) 202 46 [some (aR 188), some (aI v1), none] [] (G, c) Q := by
  refine e_L (L' := [some (aR 188), some (aI v1), none]) (st' := [aI v1]) (show decode (mC 202) 46 = .ok (.iload_n 1, 1) by decide +kernel) rfl rfl ?_
  refine e_P (st' := [aI 64, aI v1]) (show decode (mC 202) 47 = .ok (.bipush 64, 2) by decide +kernel) rfl rfl rfl ?_
  refine e_ge2 (t := 132) (show decode (mC 202) 49 = .ok (.if_icmp .ge 83, 3) by decide +kernel) (by decide) s0 (by decide) (fun p1 => ?_) (fun p1 => ?_)
  · refine e_P (st' := [aI 0]) (show decode (mC 202) 132 = .ok (.iconst 0, 1) by decide +kernel) rfl rfl rfl ?_
    refine e_L (L' := [some (aR 188), some (aI 0), none]) (st' := []) (show decode (mC 202) 133 = .ok (.istore_n 1, 1) by decide +kernel) rfl rfl ?_
    exact (k1 p1)
  · refine e_L (L' := [some (aR 188), some (aI v1), none]) (st' := [aR 188]) (show decode (mC 202) 52 = .ok (.aload_n 0, 1) by decide +kernel) rfl (by show (if 188 = 0 then none else some (_, _)) = _; rw [if_neg (by decide)]) ?_
    refine e_getR (w := 190) (show decode (mC 202) 53 = .ok (.getfield 33, 3) by decide +kernel) (show pl 12 33 = some (0, 12, 6, 0) by decide +kernel) (by decide) (sh_ok hG (by decide +kernel)) (sh_rf hG (by decide +kernel)) ?_
    refine e_P (st' := [aI 205, aR 190]) (show decode (mC 202) 56 = .ok (.sipush 205, 3) by decide +kernel) rfl rfl rfl ?_
    refine e_L (L' := [some (aR 188), some (aI v1), none]) (st' := [aI v1, aI 205, aR 190]) (show decode (mC 202) 59 = .ok (.iload_n 1, 1) by decide +kernel) rfl rfl ?_
    refine e_P (st' := [aI (205 + v1), aR 190]) (show decode (mC 202) 60 = .ok (.iadd, 1) by decide +kernel) rfl rfl rfl ?_
    refine e_ialdx (n := 514) (show decode (mC 202) 61 = .ok (.iaload, 1) by decide +kernel) (sh_ok hG (by decide +kernel)) (sh_ln hG (by decide +kernel)) (by decide) (s2 p1) (s3 p1) ex1 ?_
    refine e_ne1 (t := 68) (show decode (mC 202) 62 = .ok (.ifCond .ne 6, 3) by decide +kernel) (by decide) (s5 p1) (fun p2 => ?_) (fun p2 => ?_)
    · refine e_ldcw (show decode (mC 202) 68 = .ok (.ldc_w 274, 3) by decide +kernel) (show pl 12 274 = some (8, 0, 0, 99999) by decide +kernel) ?_
      refine e_L (L' := [some (aR 188), some (aI v1), none]) (st' := [aR 188, aI 99999]) (show decode (mC 202) 71 = .ok (.aload_n 0, 1) by decide +kernel) rfl (by show (if 188 = 0 then none else some (_, _)) = _; rw [if_neg (by decide)]) ?_
      refine e_getR (w := 190) (show decode (mC 202) 72 = .ok (.getfield 33, 3) by decide +kernel) (show pl 12 33 = some (0, 12, 6, 0) by decide +kernel) (by decide) (sh_ok hG (by decide +kernel)) (sh_rf hG (by decide +kernel)) ?_
      refine e_P (st' := [aI 205, aR 190, aI 99999]) (show decode (mC 202) 75 = .ok (.sipush 205, 3) by decide +kernel) rfl rfl rfl ?_
      refine e_L (L' := [some (aR 188), some (aI v1), none]) (st' := [aI v1, aI 205, aR 190, aI 99999]) (show decode (mC 202) 78 = .ok (.iload_n 1, 1) by decide +kernel) rfl rfl ?_
      refine e_P (st' := [aI (205 + v1), aR 190, aI 99999]) (show decode (mC 202) 79 = .ok (.iadd, 1) by decide +kernel) rfl rfl rfl ?_
      refine e_ialdx (n := 514) (show decode (mC 202) 80 = .ok (.iaload, 1) by decide +kernel) (sh_ok hG (by decide +kernel)) (sh_ln hG (by decide +kernel)) (by decide) (s2 p1) (s3 p1) ex2 ?_
      refine e_L (L' := [some (aR 188), some (aI v1), none]) (st' := [aR 188, aI x2, aI 99999]) (show decode (mC 202) 81 = .ok (.aload_n 0, 1) by decide +kernel) rfl (by show (if 188 = 0 then none else some (_, _)) = _; rw [if_neg (by decide)]) ?_
      refine e_getR (w := 190) (show decode (mC 202) 82 = .ok (.getfield 33, 3) by decide +kernel) (show pl 12 33 = some (0, 12, 6, 0) by decide +kernel) (by decide) (sh_ok hG (by decide +kernel)) (sh_rf hG (by decide +kernel)) ?_
      refine e_P (st' := [aI 2, aR 190, aI x2, aI 99999]) (show decode (mC 202) 85 = .ok (.iconst 2, 1) by decide +kernel) rfl rfl rfl ?_
      refine e_ialdx (n := 514) (show decode (mC 202) 86 = .ok (.iaload, 1) by decide +kernel) (sh_ok hG (by decide +kernel)) (sh_ln hG (by decide +kernel)) (by decide) (by decide) (by decide) ex3 ?_
      refine e_P (st' := [aI (x2 + x3), aI 99999]) (show decode (mC 202) 87 = .ok (.iadd, 1) by decide +kernel) rfl rfl rfl ?_
      exact e_S (as := [aI 99999, aI (x2 + x3)]) (rest := []) (show decode (mC 202) 88 = .ok (.invokestatic 268, 3) by decide +kernel) (by decide +kernel) (show (decide ((2 : Nat) = mA 166) && decide (166 < q_law)) = true by decide +kernel) rfl (show (0 : Nat) ≤ 8 by decide) (show (2 : Nat) ≤ mL 166 by decide +kernel) (m8 p1 p2)
    · refine e_go (t := 126) (show decode (mC 202) 65 = .ok (.goto 61, 3) by decide +kernel) (by decide) ?_
      refine e_L (L' := [some (aR 188), some (aI (v1 + 1)), none]) (st' := []) (show decode (mC 202) 126 = .ok (.iinc 1 1, 3) by decide +kernel) rfl rfl ?_
      refine e_go (t := 46) (show decode (mC 202) 129 = .ok (.goto (-83), 3) by decide +kernel) (by decide) ?_
      exact (k9 p1 p2)
/-- SoulOfficeModel.day()V, from 91 -/
theorem b202_91 (hG : Shp G) {v1 u0 x1 x2 : Int} (hQ : ∀ o o' h', q_eqo o o' → Q o h' → Q o' h')
    (ex1 : c 190 170 = x1)
    (s1 : 0 ≤ (205 + v1))
    (s2 : (205 + v1) < 514)
    (ex2 : c 190 (205 + v1) = x2)
    (k4 : T (d + 1) 202 46 [some (aR 188), some (aI (v1 + 1)), none] [] (G, (q_up (q_up c 190 170 (x1 + (u0 - x2))) 190 (205 + v1) u0)) Q) :
    T (d + 1) 202 91 [some (aR 188), some (aI v1), none] [aI u0] (G, c) Q := by
  refine e_L (L' := [some (aR 188), some (aI v1), some (aI u0)]) (st' := []) (show decode (mC 202) 91 = .ok (.istore_n 2, 1) by decide +kernel) rfl rfl ?_
  refine e_L (L' := [some (aR 188), some (aI v1), some (aI u0)]) (st' := [aR 188]) (show decode (mC 202) 92 = .ok (.aload_n 0, 1) by decide +kernel) rfl (by show (if 188 = 0 then none else some (_, _)) = _; rw [if_neg (by decide)]) ?_
  refine e_getR (w := 190) (show decode (mC 202) 93 = .ok (.getfield 33, 3) by decide +kernel) (show pl 12 33 = some (0, 12, 6, 0) by decide +kernel) (by decide) (sh_ok hG (by decide +kernel)) (sh_rf hG (by decide +kernel)) ?_
  refine e_P (st' := [aI 170, aR 190]) (show decode (mC 202) 96 = .ok (.sipush 170, 3) by decide +kernel) rfl rfl rfl ?_
  refine e_P (st' := [aI 170, aR 190, aI 170, aR 190]) (show decode (mC 202) 99 = .ok (.dup2, 1) by decide +kernel) rfl rfl rfl ?_
  refine e_ialdx (n := 514) (show decode (mC 202) 100 = .ok (.iaload, 1) by decide +kernel) (sh_ok hG (by decide +kernel)) (sh_ln hG (by decide +kernel)) (by decide) (by decide) (by decide) ex1 ?_
  refine e_L (L' := [some (aR 188), some (aI v1), some (aI u0)]) (st' := [aI u0, aI x1, aI 170, aR 190]) (show decode (mC 202) 101 = .ok (.iload_n 2, 1) by decide +kernel) rfl rfl ?_
  refine e_L (L' := [some (aR 188), some (aI v1), some (aI u0)]) (st' := [aR 188, aI u0, aI x1, aI 170, aR 190]) (show decode (mC 202) 102 = .ok (.aload_n 0, 1) by decide +kernel) rfl (by show (if 188 = 0 then none else some (_, _)) = _; rw [if_neg (by decide)]) ?_
  refine e_getR (w := 190) (show decode (mC 202) 103 = .ok (.getfield 33, 3) by decide +kernel) (show pl 12 33 = some (0, 12, 6, 0) by decide +kernel) (by decide) (sh_ok hG (by decide +kernel)) (sh_rf hG (by decide +kernel)) ?_
  refine e_P (st' := [aI 205, aR 190, aI u0, aI x1, aI 170, aR 190]) (show decode (mC 202) 106 = .ok (.sipush 205, 3) by decide +kernel) rfl rfl rfl ?_
  refine e_L (L' := [some (aR 188), some (aI v1), some (aI u0)]) (st' := [aI v1, aI 205, aR 190, aI u0, aI x1, aI 170, aR 190]) (show decode (mC 202) 109 = .ok (.iload_n 1, 1) by decide +kernel) rfl rfl ?_
  refine e_P (st' := [aI (205 + v1), aR 190, aI u0, aI x1, aI 170, aR 190]) (show decode (mC 202) 110 = .ok (.iadd, 1) by decide +kernel) rfl rfl rfl ?_
  refine e_ialdx (n := 514) (show decode (mC 202) 111 = .ok (.iaload, 1) by decide +kernel) (sh_ok hG (by decide +kernel)) (sh_ln hG (by decide +kernel)) (by decide) s1 s2 ex2 ?_
  refine e_P (st' := [aI (u0 - x2), aI x1, aI 170, aR 190]) (show decode (mC 202) 112 = .ok (.isub, 1) by decide +kernel) rfl rfl rfl ?_
  refine e_P (st' := [aI (x1 + (u0 - x2)), aI 170, aR 190]) (show decode (mC 202) 113 = .ok (.iadd, 1) by decide +kernel) rfl rfl rfl ?_
  refine e_iast (n := 514) (show decode (mC 202) 114 = .ok (.iastore, 1) by decide +kernel) (sh_ok hG (by decide +kernel)) (sh_ln hG (by decide +kernel)) (by decide) (by decide) (by decide) ?_
  refine e_L (L' := [some (aR 188), some (aI v1), some (aI u0)]) (st' := [aR 188]) (show decode (mC 202) 115 = .ok (.aload_n 0, 1) by decide +kernel) rfl (by show (if 188 = 0 then none else some (_, _)) = _; rw [if_neg (by decide)]) ?_
  refine e_getR (w := 190) (show decode (mC 202) 116 = .ok (.getfield 33, 3) by decide +kernel) (show pl 12 33 = some (0, 12, 6, 0) by decide +kernel) (by decide) (sh_ok hG (by decide +kernel)) (sh_rf hG (by decide +kernel)) ?_
  refine e_P (st' := [aI 205, aR 190]) (show decode (mC 202) 119 = .ok (.sipush 205, 3) by decide +kernel) rfl rfl rfl ?_
  refine e_L (L' := [some (aR 188), some (aI v1), some (aI u0)]) (st' := [aI v1, aI 205, aR 190]) (show decode (mC 202) 122 = .ok (.iload_n 1, 1) by decide +kernel) rfl rfl ?_
  refine e_P (st' := [aI (205 + v1), aR 190]) (show decode (mC 202) 123 = .ok (.iadd, 1) by decide +kernel) rfl rfl rfl ?_
  refine e_L (L' := [some (aR 188), some (aI v1), some (aI u0)]) (st' := [aI u0, aI (205 + v1), aR 190]) (show decode (mC 202) 124 = .ok (.iload_n 2, 1) by decide +kernel) rfl rfl ?_
  refine e_iast (n := 514) (show decode (mC 202) 125 = .ok (.iastore, 1) by decide +kernel) (sh_ok hG (by decide +kernel)) (sh_ln hG (by decide +kernel)) (by decide) s1 s2 ?_
  refine e_L (L' := [some (aR 188), some (aI (v1 + 1)), some (aI u0)]) (st' := []) (show decode (mC 202) 126 = .ok (.iinc 1 1, 3) by decide +kernel) rfl rfl ?_
  refine e_go (t := 46) (show decode (mC 202) 129 = .ok (.goto (-83), 3) by decide +kernel) (by decide) ?_
  exact T_le hQ (leS (leS (leN leE))) k4
/-- SoulOfficeModel.day()V, from 134 -/
theorem b202_134 (hG : Shp G) {v1 x1 x2 x3 x4 x5 : Int}
    (ex1 : c 190 1 = x1)
    (s1 : -2147483648 ≤ v1 ∧ v1 < 2147483648)
    (s2 : -2147483648 ≤ x1 ∧ x1 < 2147483648)
    (ex2 : c 190 168 = x2)
    (z4 : (x1 ≤ v1) → Q (.inl none) (G, (q_up (q_up c 190 168 (x2 + 1)) 190 172 1)))
    (s5 : (v1 < x1) → 0 ≤ (197 + v1))
    (s6 : (v1 < x1) → (197 + v1) < 514)
    (s7 : (v1 < x1) → 0 ≤ (173 + v1))
    (s8 : (v1 < x1) → (173 + v1) < 514)
    (ex3 : (q_up c 190 (197 + v1) 0) 190 (173 + v1) = x3)
    (s10 : (v1 < x1) → -2147483648 ≤ x3 ∧ x3 < 2147483648)
    (s11 : (v1 < x1) → (¬ x3 = 0) → 0 ≤ (181 + v1))
    (s12 : (v1 < x1) → (¬ x3 = 0) → (181 + v1) < 514)
    (ex4 : (q_up c 190 (197 + v1) 0) 190 (181 + v1) = x4)
    (ex5 : (q_up (q_up c 190 (197 + v1) 0) 190 (181 + v1) (x4 - 1)) 190 (181 + v1) = x5)
    (s15 : (v1 < x1) → (¬ x3 = 0) → -2147483648 ≤ x5 ∧ x5 < 2147483648)
    (k16 : (v1 < x1) → (¬ x3 = 0) → (¬ x5 = 0) → T (d + 1) 202 134 [some (aR 188), some (aI (v1 + 1)), none] [] (G, (q_up (q_up c 190 (197 + v1) 0) 190 (181 + v1) (x4 - 1))) Q)
    (k17 : (v1 < x1) → (¬ x3 = 0) → (x5 = 0) → T (d + 1) 202 134 [some (aR 188), some (aI (v1 + 1)), none] [] (G, (q_up (q_up (q_up c 190 (197 + v1) 0) 190 (181 + v1) (x4 - 1)) 190 (173 + v1) 0)) Q)
    (k18 : (v1 < x1) → (x3 = 0) → T (d + 1) 202 134 [some (aR 188), some (aI (v1 + 1)), none] [] (G, (q_up c 190 (197 + v1) 0)) Q) :
    T (d + 1) 202 134 [some (aR 188), some (aI v1), none] [] (G, c) Q := by
  refine e_L (L' := [some (aR 188), some (aI v1), none]) (st' := [aI v1]) (show decode (mC 202) 134 = .ok (.iload_n 1, 1) by decide +kernel) rfl rfl ?_
  refine e_L (L' := [some (aR 188), some (aI v1), none]) (st' := [aR 188, aI v1]) (show decode (mC 202) 135 = .ok (.aload_n 0, 1) by decide +kernel) rfl (by show (if 188 = 0 then none else some (_, _)) = _; rw [if_neg (by decide)]) ?_
  refine e_getR (w := 190) (show decode (mC 202) 136 = .ok (.getfield 33, 3) by decide +kernel) (show pl 12 33 = some (0, 12, 6, 0) by decide +kernel) (by decide) (sh_ok hG (by decide +kernel)) (sh_rf hG (by decide +kernel)) ?_
  refine e_P (st' := [aI 1, aR 190, aI v1]) (show decode (mC 202) 139 = .ok (.iconst 1, 1) by decide +kernel) rfl rfl rfl ?_
  refine e_ialdx (n := 514) (show decode (mC 202) 140 = .ok (.iaload, 1) by decide +kernel) (sh_ok hG (by decide +kernel)) (sh_ln hG (by decide +kernel)) (by decide) (by decide) (by decide) ex1 ?_
  refine e_ge2 (t := 215) (show decode (mC 202) 141 = .ok (.if_icmp .ge 74, 3) by decide +kernel) (by decide) s1 s2 (fun p1 => ?_) (fun p1 => ?_)
  · refine e_L (L' := [some (aR 188), some (aI v1), none]) (st' := [aR 188]) (show decode (mC 202) 215 = .ok (.aload_n 0, 1) by decide +kernel) rfl (by show (if 188 = 0 then none else some (_, _)) = _; rw [if_neg (by decide)]) ?_
    refine e_getR (w := 190) (show decode (mC 202) 216 = .ok (.getfield 33, 3) by decide +kernel) (show pl 12 33 = some (0, 12, 6, 0) by decide +kernel) (by decide) (sh_ok hG (by decide +kernel)) (sh_rf hG (by decide +kernel)) ?_
    refine e_P (st' := [aI 168, aR 190]) (show decode (mC 202) 219 = .ok (.sipush 168, 3) by decide +kernel) rfl rfl rfl ?_
    refine e_P (st' := [aI 168, aR 190, aI 168, aR 190]) (show decode (mC 202) 222 = .ok (.dup2, 1) by decide +kernel) rfl rfl rfl ?_
    refine e_ialdx (n := 514) (show decode (mC 202) 223 = .ok (.iaload, 1) by decide +kernel) (sh_ok hG (by decide +kernel)) (sh_ln hG (by decide +kernel)) (by decide) (by decide) (by decide) ex2 ?_
    refine e_P (st' := [aI 1, aI x2, aI 168, aR 190]) (show decode (mC 202) 224 = .ok (.iconst 1, 1) by decide +kernel) rfl rfl rfl ?_
    refine e_P (st' := [aI (x2 + 1), aI 168, aR 190]) (show decode (mC 202) 225 = .ok (.iadd, 1) by decide +kernel) rfl rfl rfl ?_
    refine e_iast (n := 514) (show decode (mC 202) 226 = .ok (.iastore, 1) by decide +kernel) (sh_ok hG (by decide +kernel)) (sh_ln hG (by decide +kernel)) (by decide) (by decide) (by decide) ?_
    refine e_L (L' := [some (aR 188), some (aI v1), none]) (st' := [aR 188]) (show decode (mC 202) 227 = .ok (.aload_n 0, 1) by decide +kernel) rfl (by show (if 188 = 0 then none else some (_, _)) = _; rw [if_neg (by decide)]) ?_
    refine e_getR (w := 190) (show decode (mC 202) 228 = .ok (.getfield 33, 3) by decide +kernel) (show pl 12 33 = some (0, 12, 6, 0) by decide +kernel) (by decide) (sh_ok hG (by decide +kernel)) (sh_rf hG (by decide +kernel)) ?_
    refine e_P (st' := [aI 172, aR 190]) (show decode (mC 202) 231 = .ok (.sipush 172, 3) by decide +kernel) rfl rfl rfl ?_
    refine e_P (st' := [aI 1, aI 172, aR 190]) (show decode (mC 202) 234 = .ok (.iconst 1, 1) by decide +kernel) rfl rfl rfl ?_
    refine e_iast (n := 514) (show decode (mC 202) 235 = .ok (.iastore, 1) by decide +kernel) (sh_ok hG (by decide +kernel)) (sh_ln hG (by decide +kernel)) (by decide) (by decide) (by decide) ?_
    exact e_vret (show decode (mC 202) 236 = .ok (.return_, 1) by decide +kernel) rfl (z4 p1)
  · refine e_L (L' := [some (aR 188), some (aI v1), none]) (st' := [aR 188]) (show decode (mC 202) 144 = .ok (.aload_n 0, 1) by decide +kernel) rfl (by show (if 188 = 0 then none else some (_, _)) = _; rw [if_neg (by decide)]) ?_
    refine e_getR (w := 190) (show decode (mC 202) 145 = .ok (.getfield 33, 3) by decide +kernel) (show pl 12 33 = some (0, 12, 6, 0) by decide +kernel) (by decide) (sh_ok hG (by decide +kernel)) (sh_rf hG (by decide +kernel)) ?_
    refine e_P (st' := [aI 197, aR 190]) (show decode (mC 202) 148 = .ok (.sipush 197, 3) by decide +kernel) rfl rfl rfl ?_
    refine e_L (L' := [some (aR 188), some (aI v1), none]) (st' := [aI v1, aI 197, aR 190]) (show decode (mC 202) 151 = .ok (.iload_n 1, 1) by decide +kernel) rfl rfl ?_
    refine e_P (st' := [aI (197 + v1), aR 190]) (show decode (mC 202) 152 = .ok (.iadd, 1) by decide +kernel) rfl rfl rfl ?_
    refine e_P (st' := [aI 0, aI (197 + v1), aR 190]) (show decode (mC 202) 153 = .ok (.iconst 0, 1) by decide +kernel) rfl rfl rfl ?_
    refine e_iast (n := 514) (show decode (mC 202) 154 = .ok (.iastore, 1) by decide +kernel) (sh_ok hG (by decide +kernel)) (sh_ln hG (by decide +kernel)) (by decide) (s5 p1) (s6 p1) ?_
    refine e_L (L' := [some (aR 188), some (aI v1), none]) (st' := [aR 188]) (show decode (mC 202) 155 = .ok (.aload_n 0, 1) by decide +kernel) rfl (by show (if 188 = 0 then none else some (_, _)) = _; rw [if_neg (by decide)]) ?_
    refine e_getR (w := 190) (show decode (mC 202) 156 = .ok (.getfield 33, 3) by decide +kernel) (show pl 12 33 = some (0, 12, 6, 0) by decide +kernel) (by decide) (sh_ok hG (by decide +kernel)) (sh_rf hG (by decide +kernel)) ?_
    refine e_P (st' := [aI 173, aR 190]) (show decode (mC 202) 159 = .ok (.sipush 173, 3) by decide +kernel) rfl rfl rfl ?_
    refine e_L (L' := [some (aR 188), some (aI v1), none]) (st' := [aI v1, aI 173, aR 190]) (show decode (mC 202) 162 = .ok (.iload_n 1, 1) by decide +kernel) rfl rfl ?_
    refine e_P (st' := [aI (173 + v1), aR 190]) (show decode (mC 202) 163 = .ok (.iadd, 1) by decide +kernel) rfl rfl rfl ?_
    refine e_ialdx (n := 514) (show decode (mC 202) 164 = .ok (.iaload, 1) by decide +kernel) (sh_ok hG (by decide +kernel)) (sh_ln hG (by decide +kernel)) (by decide) (s7 p1) (s8 p1) ex3 ?_
    refine e_ne1 (t := 171) (show decode (mC 202) 165 = .ok (.ifCond .ne 6, 3) by decide +kernel) (by decide) (s10 p1) (fun p2 => ?_) (fun p2 => ?_)
    · refine e_L (L' := [some (aR 188), some (aI v1), none]) (st' := [aR 188]) (show decode (mC 202) 171 = .ok (.aload_n 0, 1) by decide +kernel) rfl (by show (if 188 = 0 then none else some (_, _)) = _; rw [if_neg (by decide)]) ?_
      refine e_getR (w := 190) (show decode (mC 202) 172 = .ok (.getfield 33, 3) by decide +kernel) (show pl 12 33 = some (0, 12, 6, 0) by decide +kernel) (by decide) (sh_ok hG (by decide +kernel)) (sh_rf hG (by decide +kernel)) ?_
      refine e_P (st' := [aI 181, aR 190]) (show decode (mC 202) 175 = .ok (.sipush 181, 3) by decide +kernel) rfl rfl rfl ?_
      refine e_L (L' := [some (aR 188), some (aI v1), none]) (st' := [aI v1, aI 181, aR 190]) (show decode (mC 202) 178 = .ok (.iload_n 1, 1) by decide +kernel) rfl rfl ?_
      refine e_P (st' := [aI (181 + v1), aR 190]) (show decode (mC 202) 179 = .ok (.iadd, 1) by decide +kernel) rfl rfl rfl ?_
      refine e_P (st' := [aI (181 + v1), aR 190, aI (181 + v1), aR 190]) (show decode (mC 202) 180 = .ok (.dup2, 1) by decide +kernel) rfl rfl rfl ?_
      refine e_ialdx (n := 514) (show decode (mC 202) 181 = .ok (.iaload, 1) by decide +kernel) (sh_ok hG (by decide +kernel)) (sh_ln hG (by decide +kernel)) (by decide) (s11 p1 p2) (s12 p1 p2) ex4 ?_
      refine e_P (st' := [aI 1, aI x4, aI (181 + v1), aR 190]) (show decode (mC 202) 182 = .ok (.iconst 1, 1) by decide +kernel) rfl rfl rfl ?_
      refine e_P (st' := [aI (x4 - 1), aI (181 + v1), aR 190]) (show decode (mC 202) 183 = .ok (.isub, 1) by decide +kernel) rfl rfl rfl ?_
      refine e_iast (n := 514) (show decode (mC 202) 184 = .ok (.iastore, 1) by decide +kernel) (sh_ok hG (by decide +kernel)) (sh_ln hG (by decide +kernel)) (by decide) (s11 p1 p2) (s12 p1 p2) ?_
      refine e_L (L' := [some (aR 188), some (aI v1), none]) (st' := [aR 188]) (show decode (mC 202) 185 = .ok (.aload_n 0, 1) by decide +kernel) rfl (by show (if 188 = 0 then none else some (_, _)) = _; rw [if_neg (by decide)]) ?_
      refine e_getR (w := 190) (show decode (mC 202) 186 = .ok (.getfield 33, 3) by decide +kernel) (show pl 12 33 = some (0, 12, 6, 0) by decide +kernel) (by decide) (sh_ok hG (by decide +kernel)) (sh_rf hG (by decide +kernel)) ?_
      refine e_P (st' := [aI 181, aR 190]) (show decode (mC 202) 189 = .ok (.sipush 181, 3) by decide +kernel) rfl rfl rfl ?_
      refine e_L (L' := [some (aR 188), some (aI v1), none]) (st' := [aI v1, aI 181, aR 190]) (show decode (mC 202) 192 = .ok (.iload_n 1, 1) by decide +kernel) rfl rfl ?_
      refine e_P (st' := [aI (181 + v1), aR 190]) (show decode (mC 202) 193 = .ok (.iadd, 1) by decide +kernel) rfl rfl rfl ?_
      refine e_ialdx (n := 514) (show decode (mC 202) 194 = .ok (.iaload, 1) by decide +kernel) (sh_ok hG (by decide +kernel)) (sh_ln hG (by decide +kernel)) (by decide) (s11 p1 p2) (s12 p1 p2) ex5 ?_
      refine e_ne1 (t := 209) (show decode (mC 202) 195 = .ok (.ifCond .ne 14, 3) by decide +kernel) (by decide) (s15 p1 p2) (fun p3 => ?_) (fun p3 => ?_)
      · refine e_L (L' := [some (aR 188), some (aI (v1 + 1)), none]) (st' := []) (show decode (mC 202) 209 = .ok (.iinc 1 1, 3) by decide +kernel) rfl rfl ?_
        refine e_go (t := 134) (show decode (mC 202) 212 = .ok (.goto (-78), 3) by decide +kernel) (by decide) ?_
        exact (k16 p1 p2 p3)
      · refine e_L (L' := [some (aR 188), some (aI v1), none]) (st' := [aR 188]) (show decode (mC 202) 198 = .ok (.aload_n 0, 1) by decide +kernel) rfl (by show (if 188 = 0 then none else some (_, _)) = _; rw [if_neg (by decide)]) ?_
        refine e_getR (w := 190) (show decode (mC 202) 199 = .ok (.getfield 33, 3) by decide +kernel) (show pl 12 33 = some (0, 12, 6, 0) by decide +kernel) (by decide) (sh_ok hG (by decide +kernel)) (sh_rf hG (by decide +kernel)) ?_
        refine e_P (st' := [aI 173, aR 190]) (show decode (mC 202) 202 = .ok (.sipush 173, 3) by decide +kernel) rfl rfl rfl ?_
        refine e_L (L' := [some (aR 188), some (aI v1), none]) (st' := [aI v1, aI 173, aR 190]) (show decode (mC 202) 205 = .ok (.iload_n 1, 1) by decide +kernel) rfl rfl ?_
        refine e_P (st' := [aI (173 + v1), aR 190]) (show decode (mC 202) 206 = .ok (.iadd, 1) by decide +kernel) rfl rfl rfl ?_
        refine e_P (st' := [aI 0, aI (173 + v1), aR 190]) (show decode (mC 202) 207 = .ok (.iconst 0, 1) by decide +kernel) rfl rfl rfl ?_
        refine e_iast (n := 514) (show decode (mC 202) 208 = .ok (.iastore, 1) by decide +kernel) (sh_ok hG (by decide +kernel)) (sh_ln hG (by decide +kernel)) (by decide) (s7 p1) (s8 p1) ?_
        refine e_L (L' := [some (aR 188), some (aI (v1 + 1)), none]) (st' := []) (show decode (mC 202) 209 = .ok (.iinc 1 1, 3) by decide +kernel) rfl rfl ?_
        refine e_go (t := 134) (show decode (mC 202) 212 = .ok (.goto (-78), 3) by decide +kernel) (by decide) ?_
        exact (k17 p1 p2 p3)
    · refine e_go (t := 209) (show decode (mC 202) 168 = .ok (.goto 41, 3) by decide +kernel) (by decide) ?_
      refine e_L (L' := [some (aR 188), some (aI (v1 + 1)), none]) (st' := []) (show decode (mC 202) 209 = .ok (.iinc 1 1, 3) by decide +kernel) rfl rfl ?_
      refine e_go (t := 134) (show decode (mC 202) 212 = .ok (.goto (-78), 3) by decide +kernel) (by decide) ?_
      exact (k18 p1 p2)
/-- SoulOfficeModel.clerkOf(I)I, from 0 -/
theorem b203_0 (hG : Shp G) {v1 x1 : Int} (hQ : ∀ o o' h', q_eqo o o' → Q o h' → Q o' h')
    (s0 : 0 ≤ (59 + v1))
    (s1 : (59 + v1) < 514)
    (ex1 : c 190 (59 + v1) = x1)
    (s3 : -2147483648 ≤ (x1 - 1) ∧ (x1 - 1) < 2147483648)
    (k4 : ((x1 - 1) < 0) → T (d + 1) 203 29 [some (aR 188), some (aI v1), none, some (aI 0)] [] (G, c) Q)
    (m5 : (0 ≤ (x1 - 1)) → TM d 198 [aR 188, aI v1, aI (x1 - 1)] (G, c) (fun r h' => T (d + 1) 203 22 [some (aR 188), some (aI v1), some (aI (x1 - 1)), none] (r.toList ++ []) h' Q)) :
    T (d + 1) 203 0 [some (aR 188), some (aI v1), none, none] [] (G, c) Q := by
  refine e_L (L' := [some (aR 188), some (aI v1), none, none]) (st' := [aR 188]) (show decode (mC 203) 0 = .ok (.aload_n 0, 1) by decide +kernel) rfl (by show (if 188 = 0 then none else some (_, _)) = _; rw [if_neg (by decide)]) ?_
  refine e_getR (w := 190) (show decode (mC 203) 1 = .ok (.getfield 33, 3) by decide +kernel) (show pl 12 33 = some (0, 12, 6, 0) by decide +kernel) (by decide) (sh_ok hG (by decide +kernel)) (sh_rf hG (by decide +kernel)) ?_
  refine e_P (st' := [aI 59, aR 190]) (show decode (mC 203) 4 = .ok (.bipush 59, 2) by decide +kernel) rfl rfl rfl ?_
  refine e_L (L' := [some (aR 188), some (aI v1), none, none]) (st' := [aI v1, aI 59, aR 190]) (show decode (mC 203) 6 = .ok (.iload_n 1, 1) by decide +kernel) rfl rfl ?_
  refine e_P (st' := [aI (59 + v1), aR 190]) (show decode (mC 203) 7 = .ok (.iadd, 1) by decide +kernel) rfl rfl rfl ?_
  refine e_ialdx (n := 514) (show decode (mC 203) 8 = .ok (.iaload, 1) by decide +kernel) (sh_ok hG (by decide +kernel)) (sh_ln hG (by decide +kernel)) (by decide) s0 s1 ex1 ?_
  refine e_P (st' := [aI 1, aI x1]) (show decode (mC 203) 9 = .ok (.iconst 1, 1) by decide +kernel) rfl rfl rfl ?_
  refine e_P (st' := [aI (x1 - 1)]) (show decode (mC 203) 10 = .ok (.isub, 1) by decide +kernel) rfl rfl rfl ?_
  refine e_L (L' := [some (aR 188), some (aI v1), some (aI (x1 - 1)), none]) (st' := []) (show decode (mC 203) 11 = .ok (.istore_n 2, 1) by decide +kernel) rfl rfl ?_
  refine e_L (L' := [some (aR 188), some (aI v1), some (aI (x1 - 1)), none]) (st' := [aI (x1 - 1)]) (show decode (mC 203) 12 = .ok (.iload_n 2, 1) by decide +kernel) rfl rfl ?_
  refine e_lt1 (t := 27) (show decode (mC 203) 13 = .ok (.ifCond .lt 14, 3) by decide +kernel) (by decide) s3 (fun p1 => ?_) (fun p1 => ?_)
  · refine e_P (st' := [aI 0]) (show decode (mC 203) 27 = .ok (.iconst 0, 1) by decide +kernel) rfl rfl rfl ?_
    refine e_L (L' := [some (aR 188), some (aI v1), some (aI (x1 - 1)), some (aI 0)]) (st' := []) (show decode (mC 203) 28 = .ok (.istore_n 3, 1) by decide +kernel) rfl rfl ?_
    exact T_le hQ (leS (leS (leN (leS leE)))) (k4 p1)
  · refine e_L (L' := [some (aR 188), some (aI v1), some (aI (x1 - 1)), none]) (st' := [aR 188]) (show decode (mC 203) 16 = .ok (.aload_n 0, 1) by decide +kernel) rfl (by show (if 188 = 0 then none else some (_, _)) = _; rw [if_neg (by decide)]) ?_
    refine e_L (L' := [some (aR 188), some (aI v1), some (aI (x1 - 1)), none]) (st' := [aI v1, aR 188]) (show decode (mC 203) 17 = .ok (.iload_n 1, 1) by decide +kernel) rfl rfl ?_
    refine e_L (L' := [some (aR 188), some (aI v1), some (aI (x1 - 1)), none]) (st' := [aI (x1 - 1), aI v1, aR 188]) (show decode (mC 203) 18 = .ok (.iload_n 2, 1) by decide +kernel) rfl rfl ?_
    exact e_V (as := [aR 188, aI v1, aI (x1 - 1)]) (rest := []) (show decode (mC 203) 19 = .ok (.invokevirtual 275, 3) by decide +kernel) (by decide +kernel) (show (decide ((3 : Nat) = mA 198) && decide (198 < q_law)) = true by decide +kernel) rfl (show (0 : Nat) ≤ 8 by decide) (show (3 : Nat) ≤ mL 198 by decide +kernel) rfl (sh_ok hG (by decide +kernel)) (m5 p1)
/-- SoulOfficeModel.clerkOf(I)I, from 22 -/
theorem b203_22 (hG : Shp G) {v1 v2 u0 : Int} (hQ : ∀ o o' h', q_eqo o o' → Q o h' → Q o' h')
    (s0 : -2147483648 ≤ u0 ∧ u0 < 2147483648)
    (k1 : (¬ u0 = 0) → T (d + 1) 203 29 [some (aR 188), some (aI v1), none, some (aI 0)] [] (G, c) Q)
    (z2 : (u0 = 0) → Q (.inl (some (aI v2))) (G, c)) :
    T (d + 1) 203 22 [some (aR 188), some (aI v1), some (aI v2), none] [aI u0] (G, c) Q := by
  refine e_ne1 (t := 27) (show decode (mC 203) 22 = .ok (.ifCond .ne 5, 3) by decide +kernel) (by decide) s0 (fun p1 => ?_) (fun p1 => ?_)
  · refine e_P (st' := [aI 0]) (show decode (mC 203) 27 = .ok (.iconst 0, 1) by decide +kernel) rfl rfl rfl ?_
    refine e_L (L' := [some (aR 188), some (aI v1), some (aI v2), some (aI 0)]) (st' := []) (show decode (mC 203) 28 = .ok (.istore_n 3, 1) by decide +kernel) rfl rfl ?_
    exact T_le hQ (leS (leS (leN (leS leE)))) (k1 p1)
  · refine e_L (L' := [some (aR 188), some (aI v1), some (aI v2), none]) (st' := [aI v2]) (show decode (mC 203) 25 = .ok (.iload_n 2, 1) by decide +kernel) rfl rfl ?_
    exact e_iret (show decode (mC 203) 26 = .ok (.ireturn, 1) by decide +kernel) rfl (z2 p1)
/-- SoulOfficeModel.clerkOf(I)I, from 29 -/
theorem b203_29 (hG : Shp G) {v1 v3 x1 : Int}
    (ex1 : c 190 0 = x1)
    (s1 : -2147483648 ≤ v3 ∧ v3 < 2147483648)
    (s2 : -2147483648 ≤ x1 ∧ x1 < 2147483648)
    (z3 : (x1 ≤ v3) → Q (.inl (some (aI (-1)))) (G, c))
    (m4 : (v3 < x1) → TM d 198 [aR 188, aI v1, aI v3] (G, c) (fun r h' => T (d + 1) 203 45 [some (aR 188), some (aI v1), none, some (aI v3)] (r.toList ++ []) h' Q)) :
    T (d + 1) 203 29 [some (aR 188), some (aI v1), none, some (aI v3)] [] (G, c) Q := by
  refine e_L (L' := [some (aR 188), some (aI v1), none, some (aI v3)]) (st' := [aI v3]) (show decode (mC 203) 29 = .ok (.iload_n 3, 1) by decide +kernel) rfl rfl ?_
  refine e_L (L' := [some (aR 188), some (aI v1), none, some (aI v3)]) (st' := [aR 188, aI v3]) (show decode (mC 203) 30 = .ok (.aload_n 0, 1) by decide +kernel) rfl (by show (if 188 = 0 then none else some (_, _)) = _; rw [if_neg (by decide)]) ?_
  refine e_getR (w := 190) (show decode (mC 203) 31 = .ok (.getfield 33, 3) by decide +kernel) (show pl 12 33 = some (0, 12, 6, 0) by decide +kernel) (by decide) (sh_ok hG (by decide +kernel)) (sh_rf hG (by decide +kernel)) ?_
  refine e_P (st' := [aI 0, aR 190, aI v3]) (show decode (mC 203) 34 = .ok (.iconst 0, 1) by decide +kernel) rfl rfl rfl ?_
  refine e_ialdx (n := 514) (show decode (mC 203) 35 = .ok (.iaload, 1) by decide +kernel) (sh_ok hG (by decide +kernel)) (sh_ln hG (by decide +kernel)) (by decide) (by decide) (by decide) ex1 ?_
  refine e_ge2 (t := 56) (show decode (mC 203) 36 = .ok (.if_icmp .ge 20, 3) by decide +kernel) (by decide) s1 s2 (fun p1 => ?_) (fun p1 => ?_)
  · refine e_P (st' := [aI (-1)]) (show decode (mC 203) 56 = .ok (.iconst (-1), 1) by decide +kernel) rfl rfl rfl ?_
    exact e_iret (show decode (mC 203) 57 = .ok (.ireturn, 1) by decide +kernel) rfl (z3 p1)
  · refine e_L (L' := [some (aR 188), some (aI v1), none, some (aI v3)]) (st' := [aR 188]) (show decode (mC 203) 39 = .ok (.aload_n 0, 1) by decide +kernel) rfl (by show (if 188 = 0 then none else some (_, _)) = _; rw [if_neg (by decide)]) ?_
    refine e_L (L' := [some (aR 188), some (aI v1), none, some (aI v3)]) (st' := [aI v1, aR 188]) (show decode (mC 203) 40 = .ok (.iload_n 1, 1) by decide +kernel) rfl rfl ?_
    refine e_L (L' := [some (aR 188), some (aI v1), none, some (aI v3)]) (st' := [aI v3, aI v1, aR 188]) (show decode (mC 203) 41 = .ok (.iload_n 3, 1) by decide +kernel) rfl rfl ?_
    exact e_V (as := [aR 188, aI v1, aI v3]) (rest := []) (show decode (mC 203) 42 = .ok (.invokevirtual 275, 3) by decide +kernel) (by decide +kernel) (show (decide ((3 : Nat) = mA 198) && decide (198 < q_law)) = true by decide +kernel) rfl (show (0 : Nat) ≤ 8 by decide) (show (3 : Nat) ≤ mL 198 by decide +kernel) rfl (sh_ok hG (by decide +kernel)) (m4 p1)
end QB26
