section QB28
variable {d : Nat} {G : GG} {c : CC} {Q : OO → HH → Prop}
/-- SoulOfficeModel.back()V, from 0 -/
theorem b215_0 (hG : Shp G)
    (k0 : T d 215 2 [some (aR 188), some (aI 0)] [] (G, c) Q) :
    T d 215 0 [some (aR 188), none] [] (G, c) Q := by
  refine e_P (st' := [aI 0]) (show decode (mC 215) 0 = .ok (.iconst 0, 1) by decide +kernel) rfl rfl rfl ?_
  refine e_L (L' := [some (aR 188), some (aI 0)]) (st' := []) (show decode (mC 215) 1 = .ok (.istore_n 1, 1) by decide +kernel) rfl rfl ?_
  exact k0
/-- SoulOfficeModel.back()V, from 2 -/
theorem b215_2 (hG : Shp G) {v1 x1 : Int}
    (s0 : -2147483648 ≤ v1 ∧ v1 < 2147483648)
    (z1 : (165 ≤ v1) → Q (.inl none) (G, c))
    (s2 : (v1 < 165) → 0 ≤ v1)
    (s3 : (v1 < 165) → v1 < 165)
    (ex1 : c 196 v1 = x1)
    (s5 : (v1 < 165) → 0 ≤ (168 + v1))
    (s6 : (v1 < 165) → (168 + v1) < 514)
    (k7 : (v1 < 165) → T d 215 2 [some (aR 188), some (aI (v1 + 1))] [] (G, (q_up c 190 (168 + v1) x1)) Q) :
    T d 215 2 [some (aR 188), some (aI v1)] [] (G, c) Q := by
  refine e_L (L' := [some (aR 188), some (aI v1)]) (st' := [aI v1]) (show decode (mC 215) 2 = .ok (.iload_n 1, 1) by decide +kernel) rfl rfl ?_
  refine e_P (st' := [aI 165, aI v1]) (show decode (mC 215) 3 = .ok (.sipush 165, 3) by decide +kernel) rfl rfl rfl ?_
  refine e_ge2 (t := 31) (show decode (mC 215) 6 = .ok (.if_icmp .ge 25, 3) by decide +kernel) (by decide) s0 (by decide) (fun p1 => ?_) (fun p1 => ?_)
  · exact e_vret (show decode (mC 215) 31 = .ok (.return_, 1) by decide +kernel) rfl (z1 p1)
  · refine e_L (L' := [some (aR 188), some (aI v1)]) (st' := [aR 188]) (show decode (mC 215) 9 = .ok (.aload_n 0, 1) by decide +kernel) rfl (by show (if 188 = 0 then none else some (_, _)) = _; rw [if_neg (by decide)]) ?_
    refine e_getR (w := 190) (show decode (mC 215) 10 = .ok (.getfield 33, 3) by decide +kernel) (show pl 12 33 = some (0, 12, 6, 0) by decide +kernel) (by decide) (sh_ok hG (by decide +kernel)) (sh_rf hG (by decide +kernel)) ?_
    refine e_P (st' := [aI 168, aR 190]) (show decode (mC 215) 13 = .ok (.sipush 168, 3) by decide +kernel) rfl rfl rfl ?_
    refine e_L (L' := [some (aR 188), some (aI v1)]) (st' := [aI v1, aI 168, aR 190]) (show decode (mC 215) 16 = .ok (.iload_n 1, 1) by decide +kernel) rfl rfl ?_
    refine e_P (st' := [aI (168 + v1), aR 190]) (show decode (mC 215) 17 = .ok (.iadd, 1) by decide +kernel) rfl rfl rfl ?_
    refine e_L (L' := [some (aR 188), some (aI v1)]) (st' := [aR 188, aI (168 + v1), aR 190]) (show decode (mC 215) 18 = .ok (.aload_n 0, 1) by decide +kernel) rfl (by show (if 188 = 0 then none else some (_, _)) = _; rw [if_neg (by decide)]) ?_
    refine e_getR (w := 196) (show decode (mC 215) 19 = .ok (.getfield 53, 3) by decide +kernel) (show pl 12 53 = some (0, 12, 22, 0) by decide +kernel) (by decide) (sh_ok hG (by decide +kernel)) (sh_rf hG (by decide +kernel)) ?_
    refine e_L (L' := [some (aR 188), some (aI v1)]) (st' := [aI v1, aR 196, aI (168 + v1), aR 190]) (show decode (mC 215) 22 = .ok (.iload_n 1, 1) by decide +kernel) rfl rfl ?_
    refine e_ialdx (n := 165) (show decode (mC 215) 23 = .ok (.iaload, 1) by decide +kernel) (sh_ok hG (by decide +kernel)) (sh_ln hG (by decide +kernel)) (by decide) (s2 p1) (s3 p1) ex1 ?_
    refine e_iast (n := 514) (show decode (mC 215) 24 = .ok (.iastore, 1) by decide +kernel) (sh_ok hG (by decide +kernel)) (sh_ln hG (by decide +kernel)) (by decide) (s5 p1) (s6 p1) ?_
    refine e_L (L' := [some (aR 188), some (aI (v1 + 1))]) (st' := []) (show decode (mC 215) 25 = .ok (.iinc 1 1, 3) by decide +kernel) rfl rfl ?_
    refine e_go (t := 2) (show decode (mC 215) 28 = .ok (.goto (-26), 3) by decide +kernel) (by decide) ?_
    exact (k7 p1)
/-- SoulOfficeModel.nextWay(I)Z, from 0 -/
theorem b216_0 (hG : Shp G) {v1 : Int} (hQ : ∀ o o' h', q_eqo o o' → Q o h' → Q o' h')
    (k0 : T d 216 4 [some (aR 188), none, some (aI (v1 - 1))] [] (G, c) Q) :
    T d 216 0 [some (aR 188), some (aI v1), none] [] (G, c) Q := by
  refine e_L (L' := [some (aR 188), some (aI v1), none]) (st' := [aI v1]) (show decode (mC 216) 0 = .ok (.iload_n 1, 1) by decide +kernel) rfl rfl ?_
  refine e_P (st' := [aI 1, aI v1]) (show decode (mC 216) 1 = .ok (.iconst 1, 1) by decide +kernel) rfl rfl rfl ?_
  refine e_P (st' := [aI (v1 - 1)]) (show decode (mC 216) 2 = .ok (.isub, 1) by decide +kernel) rfl rfl rfl ?_
  refine e_L (L' := [some (aR 188), some (aI v1), some (aI (v1 - 1))]) (st' := []) (show decode (mC 216) 3 = .ok (.istore_n 2, 1) by decide +kernel) rfl rfl ?_
  exact T_le hQ (leS (leN (leS leE))) k0
/-- SoulOfficeModel.nextWay(I)Z, from 4 -/
theorem b216_4 (hG : Shp G) {v2 x1 x2 x3 : Int}
    (s0 : -2147483648 ≤ v2 ∧ v2 < 2147483648)
    (z1 : (v2 < 0) → Q (.inl (some (aI 0))) (G, c))
    (s2 : (0 ≤ v2) → 0 ≤ v2)
    (s3 : (0 ≤ v2) → v2 < 8)
    (ex1 : c 198 v2 = x1)
    (ex2 : (q_up c 198 v2 (x1 + 1)) 198 v2 = x2)
    (ex3 : (q_up c 198 v2 (x1 + 1)) 190 0 = x3)
    (s7 : (0 ≤ v2) → -2147483648 ≤ x2 ∧ x2 < 2147483648)
    (s8 : (0 ≤ v2) → -2147483648 ≤ x3 ∧ x3 < 2147483648)
    (k9 : (0 ≤ v2) → (x3 < x2) → T d 216 4 [some (aR 188), none, some (aI (v2 + (-1)))] [] (G, (q_up (q_up c 198 v2 (x1 + 1)) 198 v2 0)) Q)
    (z10 : (0 ≤ v2) → (x2 ≤ x3) → Q (.inl (some (aI 1))) (G, (q_up c 198 v2 (x1 + 1)))) :
    T d 216 4 [some (aR 188), none, some (aI v2)] [] (G, c) Q := by
  refine e_L (L' := [some (aR 188), none, some (aI v2)]) (st' := [aI v2]) (show decode (mC 216) 4 = .ok (.iload_n 2, 1) by decide +kernel) rfl rfl ?_
  refine e_lt1 (t := 48) (show decode (mC 216) 5 = .ok (.ifCond .lt 43, 3) by decide +kernel) (by decide) s0 (fun p1 => ?_) (fun p1 => ?_)
  · refine e_P (st' := [aI 0]) (show decode (mC 216) 48 = .ok (.iconst 0, 1) by decide +kernel) rfl rfl rfl ?_
    exact e_zret (show decode (mC 216) 49 = .ok (.ireturn, 1) by decide +kernel) rfl (by decide) (z1 p1)
  · refine e_L (L' := [some (aR 188), none, some (aI v2)]) (st' := [aR 188]) (show decode (mC 216) 8 = .ok (.aload_n 0, 1) by decide +kernel) rfl (by show (if 188 = 0 then none else some (_, _)) = _; rw [if_neg (by decide)]) ?_
    refine e_getR (w := 198) (show decode (mC 216) 9 = .ok (.getfield 59, 3) by decide +kernel) (show pl 12 59 = some (0, 12, 25, 0) by decide +kernel) (by decide) (sh_ok hG (by decide +kernel)) (sh_rf hG (by decide +kernel)) ?_
    refine e_L (L' := [some (aR 188), none, some (aI v2)]) (st' := [aI v2, aR 198]) (show decode (mC 216) 12 = .ok (.iload_n 2, 1) by decide +kernel) rfl rfl ?_
    refine e_P (st' := [aI v2, aR 198, aI v2, aR 198]) (show decode (mC 216) 13 = .ok (.dup2, 1) by decide +kernel) rfl rfl rfl ?_
    refine e_ialdx (n := 8) (show decode (mC 216) 14 = .ok (.iaload, 1) by decide +kernel) (sh_ok hG (by decide +kernel)) (sh_ln hG (by decide +kernel)) (by decide) (s2 p1) (s3 p1) ex1 ?_
    refine e_P (st' := [aI 1, aI x1, aI v2, aR 198]) (show decode (mC 216) 15 = .ok (.iconst 1, 1) by decide +kernel) rfl rfl rfl ?_
    refine e_P (st' := [aI (x1 + 1), aI v2, aR 198]) (show decode (mC 216) 16 = .ok (.iadd, 1) by decide +kernel) rfl rfl rfl ?_
    refine e_iast (n := 8) (show decode (mC 216) 17 = .ok (.iastore, 1) by decide +kernel) (sh_ok hG (by decide +kernel)) (sh_ln hG (by decide +kernel)) (by decide) (s2 p1) (s3 p1) ?_
    refine e_L (L' := [some (aR 188), none, some (aI v2)]) (st' := [aR 188]) (show decode (mC 216) 18 = .ok (.aload_n 0, 1) by decide +kernel) rfl (by show (if 188 = 0 then none else some (_, _)) = _; rw [if_neg (by decide)]) ?_
    refine e_getR (w := 198) (show decode (mC 216) 19 = .ok (.getfield 59, 3) by decide +kernel) (show pl 12 59 = some (0, 12, 25, 0) by decide +kernel) (by decide) (sh_ok hG (by decide +kernel)) (sh_rf hG (by decide +kernel)) ?_
    refine e_L (L' := [some (aR 188), none, some (aI v2)]) (st' := [aI v2, aR 198]) (show decode (mC 216) 22 = .ok (.iload_n 2, 1) by decide +kernel) rfl rfl ?_
    refine e_ialdx (n := 8) (show decode (mC 216) 23 = .ok (.iaload, 1) by decide +kernel) (sh_ok hG (by decide +kernel)) (sh_ln hG (by decide +kernel)) (by decide) (s2 p1) (s3 p1) ex2 ?_
    refine e_L (L' := [some (aR 188), none, some (aI v2)]) (st' := [aR 188, aI x2]) (show decode (mC 216) 24 = .ok (.aload_n 0, 1) by decide +kernel) rfl (by show (if 188 = 0 then none else some (_, _)) = _; rw [if_neg (by decide)]) ?_
    refine e_getR (w := 190) (show decode (mC 216) 25 = .ok (.getfield 33, 3) by decide +kernel) (show pl 12 33 = some (0, 12, 6, 0) by decide +kernel) (by decide) (sh_ok hG (by decide +kernel)) (sh_rf hG (by decide +kernel)) ?_
    refine e_P (st' := [aI 0, aR 190, aI x2]) (show decode (mC 216) 28 = .ok (.iconst 0, 1) by decide +kernel) rfl rfl rfl ?_
    refine e_ialdx (n := 514) (show decode (mC 216) 29 = .ok (.iaload, 1) by decide +kernel) (sh_ok hG (by decide +kernel)) (sh_ln hG (by decide +kernel)) (by decide) (by decide) (by decide) ex3 ?_
    refine e_gt2 (t := 35) (show decode (mC 216) 30 = .ok (.if_icmp .gt 5, 3) by decide +kernel) (by decide) (s7 p1) (s8 p1) (fun p2 => ?_) (fun p2 => ?_)
    · refine e_L (L' := [some (aR 188), none, some (aI v2)]) (st' := [aR 188]) (show decode (mC 216) 35 = .ok (.aload_n 0, 1) by decide +kernel) rfl (by show (if 188 = 0 then none else some (_, _)) = _; rw [if_neg (by decide)]) ?_
      refine e_getR (w := 198) (show decode (mC 216) 36 = .ok (.getfield 59, 3) by decide +kernel) (show pl 12 59 = some (0, 12, 25, 0) by decide +kernel) (by decide) (sh_ok hG (by decide +kernel)) (sh_rf hG (by decide +kernel)) ?_
      refine e_L (L' := [some (aR 188), none, some (aI v2)]) (st' := [aI v2, aR 198]) (show decode (mC 216) 39 = .ok (.iload_n 2, 1) by decide +kernel) rfl rfl ?_
      refine e_P (st' := [aI 0, aI v2, aR 198]) (show decode (mC 216) 40 = .ok (.iconst 0, 1) by decide +kernel) rfl rfl rfl ?_
      refine e_iast (n := 8) (show decode (mC 216) 41 = .ok (.iastore, 1) by decide +kernel) (sh_ok hG (by decide +kernel)) (sh_ln hG (by decide +kernel)) (by decide) (s2 p1) (s3 p1) ?_
      refine e_L (L' := [some (aR 188), none, some (aI (v2 + (-1)))]) (st' := []) (show decode (mC 216) 42 = .ok (.iinc 2 (-1), 3) by decide +kernel) rfl rfl ?_
      refine e_go (t := 4) (show decode (mC 216) 45 = .ok (.goto (-41), 3) by decide +kernel) (by decide) ?_
      exact (k9 p1 p2)
    · refine e_P (st' := [aI 1]) (show decode (mC 216) 33 = .ok (.iconst 1, 1) by decide +kernel) rfl rfl rfl ?_
      exact e_zret (show decode (mC 216) 34 = .ok (.ireturn, 1) by decide +kernel) rfl (by decide) (z10 p1 p2)
/-- SoulOfficeModel.goes(I)Z, from 0 -/
theorem b217_0 (hG : Shp G) {v1 : Int}
    (k0 : T (d + 1) 217 2 [some (aR 188), some (aI v1), some (aI 0)] [] (G, c) Q) :
    T (d + 1) 217 0 [some (aR 188), some (aI v1), none] [] (G, c) Q := by
  refine e_P (st' := [aI 0]) (show decode (mC 217) 0 = .ok (.iconst 0, 1) by decide +kernel) rfl rfl rfl ?_
  refine e_L (L' := [some (aR 188), some (aI v1), some (aI 0)]) (st' := []) (show decode (mC 217) 1 = .ok (.istore_n 2, 1) by decide +kernel) rfl rfl ?_
  exact k0
/-- SoulOfficeModel.goes(I)Z, from 2 -/
theorem b217_2 (hG : Shp G) {v1 v2 x1 x2 x3 : Int}
    (s0 : -2147483648 ≤ v2 ∧ v2 < 2147483648)
    (s1 : -2147483648 ≤ v1 ∧ v1 < 2147483648)
    (z2 : (v1 ≤ v2) → Q (.inl (some (aI 1))) (G, c))
    (s3 : (v2 < v1) → 0 ≤ v2)
    (s4 : (v2 < v1) → v2 < 8)
    (ex1 : c 198 v2 = x1)
    (s6 : (v2 < v1) → -2147483648 ≤ x1 ∧ x1 < 2147483648)
    (ex2 : c 197 v2 = x2)
    (ex3 : c 198 v2 = x3)
    (m9 : (v2 < v1) → (¬ x1 = 0) → TM d 198 [aR 188, aI x2, aI (x3 - 1)] (G, c) (fun r h' => T (d + 1) 217 37 [some (aR 188), some (aI v1), some (aI v2)] (r.toList ++ []) h' Q))
    (k10 : (v2 < v1) → (x1 = 0) → T (d + 1) 217 60 [some (aR 188), some (aI v1), some (aI v2)] [] (G, c) Q) :
    T (d + 1) 217 2 [some (aR 188), some (aI v1), some (aI v2)] [] (G, c) Q := by
  refine e_L (L' := [some (aR 188), some (aI v1), some (aI v2)]) (st' := [aI v2]) (show decode (mC 217) 2 = .ok (.iload_n 2, 1) by decide +kernel) rfl rfl ?_
  refine e_L (L' := [some (aR 188), some (aI v1), some (aI v2)]) (st' := [aI v1, aI v2]) (show decode (mC 217) 3 = .ok (.iload_n 1, 1) by decide +kernel) rfl rfl ?_
  refine e_ge2 (t := 66) (show decode (mC 217) 4 = .ok (.if_icmp .ge 62, 3) by decide +kernel) (by decide) s0 s1 (fun p1 => ?_) (fun p1 => ?_)
  · refine e_P (st' := [aI 1]) (show decode (mC 217) 66 = .ok (.iconst 1, 1) by decide +kernel) rfl rfl rfl ?_
    exact e_zret (show decode (mC 217) 67 = .ok (.ireturn, 1) by decide +kernel) rfl (by decide) (z2 p1)
  · refine e_L (L' := [some (aR 188), some (aI v1), some (aI v2)]) (st' := [aR 188]) (show decode (mC 217) 7 = .ok (.aload_n 0, 1) by decide +kernel) rfl (by show (if 188 = 0 then none else some (_, _)) = _; rw [if_neg (by decide)]) ?_
    refine e_getR (w := 198) (show decode (mC 217) 8 = .ok (.getfield 59, 3) by decide +kernel) (show pl 12 59 = some (0, 12, 25, 0) by decide +kernel) (by decide) (sh_ok hG (by decide +kernel)) (sh_rf hG (by decide +kernel)) ?_
    refine e_L (L' := [some (aR 188), some (aI v1), some (aI v2)]) (st' := [aI v2, aR 198]) (show decode (mC 217) 11 = .ok (.iload_n 2, 1) by decide +kernel) rfl rfl ?_
    refine e_ialdx (n := 8) (show decode (mC 217) 12 = .ok (.iaload, 1) by decide +kernel) (sh_ok hG (by decide +kernel)) (sh_ln hG (by decide +kernel)) (by decide) (s3 p1) (s4 p1) ex1 ?_
    refine e_ne1 (t := 19) (show decode (mC 217) 13 = .ok (.ifCond .ne 6, 3) by decide +kernel) (by decide) (s6 p1) (fun p2 => ?_) (fun p2 => ?_)
    · refine e_L (L' := [some (aR 188), some (aI v1), some (aI v2)]) (st' := [aR 188]) (show decode (mC 217) 19 = .ok (.aload_n 0, 1) by decide +kernel) rfl (by show (if 188 = 0 then none else some (_, _)) = _; rw [if_neg (by decide)]) ?_
      refine e_L (L' := [some (aR 188), some (aI v1), some (aI v2)]) (st' := [aR 188, aR 188]) (show decode (mC 217) 20 = .ok (.aload_n 0, 1) by decide +kernel) rfl (by show (if 188 = 0 then none else some (_, _)) = _; rw [if_neg (by decide)]) ?_
      refine e_getR (w := 197) (show decode (mC 217) 21 = .ok (.getfield 56, 3) by decide +kernel) (show pl 12 56 = some (0, 12, 24, 0) by decide +kernel) (by decide) (sh_ok hG (by decide +kernel)) (sh_rf hG (by decide +kernel)) ?_
      refine e_L (L' := [some (aR 188), some (aI v1), some (aI v2)]) (st' := [aI v2, aR 197, aR 188]) (show decode (mC 217) 24 = .ok (.iload_n 2, 1) by decide +kernel) rfl rfl ?_
      refine e_ialdx (n := 8) (show decode (mC 217) 25 = .ok (.iaload, 1) by decide +kernel) (sh_ok hG (by decide +kernel)) (sh_ln hG (by decide +kernel)) (by decide) (s3 p1) (s4 p1) ex2 ?_
      refine e_L (L' := [some (aR 188), some (aI v1), some (aI v2)]) (st' := [aR 188, aI x2, aR 188]) (show decode (mC 217) 26 = .ok (.aload_n 0, 1) by decide +kernel) rfl (by show (if 188 = 0 then none else some (_, _)) = _; rw [if_neg (by decide)]) ?_
      refine e_getR (w := 198) (show decode (mC 217) 27 = .ok (.getfield 59, 3) by decide +kernel) (show pl 12 59 = some (0, 12, 25, 0) by decide +kernel) (by decide) (sh_ok hG (by decide +kernel)) (sh_rf hG (by decide +kernel)) ?_
      refine e_L (L' := [some (aR 188), some (aI v1), some (aI v2)]) (st' := [aI v2, aR 198, aI x2, aR 188]) (show decode (mC 217) 30 = .ok (.iload_n 2, 1) by decide +kernel) rfl rfl ?_
      refine e_ialdx (n := 8) (show decode (mC 217) 31 = .ok (.iaload, 1) by decide +kernel) (sh_ok hG (by decide +kernel)) (sh_ln hG (by decide +kernel)) (by decide) (s3 p1) (s4 p1) ex3 ?_
      refine e_P (st' := [aI 1, aI x3, aI x2, aR 188]) (show decode (mC 217) 32 = .ok (.iconst 1, 1) by decide +kernel) rfl rfl rfl ?_
      refine e_P (st' := [aI (x3 - 1), aI x2, aR 188]) (show decode (mC 217) 33 = .ok (.isub, 1) by decide +kernel) rfl rfl rfl ?_
      exact e_V (as := [aR 188, aI x2, aI (x3 - 1)]) (rest := []) (show decode (mC 217) 34 = .ok (.invokevirtual 275, 3) by decide +kernel) (by decide +kernel) (show (decide ((3 : Nat) = mA 198) && decide (198 < q_law)) = true by decide +kernel) rfl (show (0 : Nat) ≤ 8 by decide) (show (3 : Nat) ≤ mL 198 by decide +kernel) rfl (sh_ok hG (by decide +kernel)) (m9 p1 p2)
    · refine e_go (t := 60) (show decode (mC 217) 16 = .ok (.goto 44, 3) by decide +kernel) (by decide) ?_
      exact (k10 p1 p2)
/-- SoulOfficeModel.goes(I)Z, from 37 -/
theorem b217_37 (hG : Shp G) {v1 v2 u0 x1 x2 : Int}
    (s0 : -2147483648 ≤ u0 ∧ u0 < 2147483648)
    (s1 : (u0 ≤ 0) → 0 ≤ v2)
    (s2 : (u0 ≤ 0) → v2 < 8)
    (ex1 : c 197 v2 = x1)
    (ex2 : c 198 v2 = x2)
    (m5 : (u0 ≤ 0) → TM d 200 [aR 188, aI x1, aI (x2 - 1)] (G, c) (fun r h' => T (d + 1) 217 60 [some (aR 188), some (aI v1), some (aI v2)] (r.toList ++ []) h' Q))
    (z6 : (0 < u0) → Q (.inl (some (aI 0))) (G, c)) :
    T (d + 1) 217 37 [some (aR 188), some (aI v1), some (aI v2)] [aI u0] (G, c) Q := by
  refine e_le1 (t := 42) (show decode (mC 217) 37 = .ok (.ifCond .le 5, 3) by decide +kernel) (by decide) s0 (fun p1 => ?_) (fun p1 => ?_)
  · refine e_L (L' := [some (aR 188), some (aI v1), some (aI v2)]) (st' := [aR 188]) (show decode (mC 217) 42 = .ok (.aload_n 0, 1) by decide +kernel) rfl (by show (if 188 = 0 then none else some (_, _)) = _; rw [if_neg (by decide)]) ?_
    refine e_L (L' := [some (aR 188), some (aI v1), some (aI v2)]) (st' := [aR 188, aR 188]) (show decode (mC 217) 43 = .ok (.aload_n 0, 1) by decide +kernel) rfl (by show (if 188 = 0 then none else some (_, _)) = _; rw [if_neg (by decide)]) ?_
    refine e_getR (w := 197) (show decode (mC 217) 44 = .ok (.getfield 56, 3) by decide +kernel) (show pl 12 56 = some (0, 12, 24, 0) by decide +kernel) (by decide) (sh_ok hG (by decide +kernel)) (sh_rf hG (by decide +kernel)) ?_
    refine e_L (L' := [some (aR 188), some (aI v1), some (aI v2)]) (st' := [aI v2, aR 197, aR 188]) (show decode (mC 217) 47 = .ok (.iload_n 2, 1) by decide +kernel) rfl rfl ?_
    refine e_ialdx (n := 8) (show decode (mC 217) 48 = .ok (.iaload, 1) by decide +kernel) (sh_ok hG (by decide +kernel)) (sh_ln hG (by decide +kernel)) (by decide) (s1 p1) (s2 p1) ex1 ?_
    refine e_L (L' := [some (aR 188), some (aI v1), some (aI v2)]) (st' := [aR 188, aI x1, aR 188]) (show decode (mC 217) 49 = .ok (.aload_n 0, 1) by decide +kernel) rfl (by show (if 188 = 0 then none else some (_, _)) = _; rw [if_neg (by decide)]) ?_
    refine e_getR (w := 198) (show decode (mC 217) 50 = .ok (.getfield 59, 3) by decide +kernel) (show pl 12 59 = some (0, 12, 25, 0) by decide +kernel) (by decide) (sh_ok hG (by decide +kernel)) (sh_rf hG (by decide +kernel)) ?_
    refine e_L (L' := [some (aR 188), some (aI v1), some (aI v2)]) (st' := [aI v2, aR 198, aI x1, aR 188]) (show decode (mC 217) 53 = .ok (.iload_n 2, 1) by decide +kernel) rfl rfl ?_
    refine e_ialdx (n := 8) (show decode (mC 217) 54 = .ok (.iaload, 1) by decide +kernel) (sh_ok hG (by decide +kernel)) (sh_ln hG (by decide +kernel)) (by decide) (s1 p1) (s2 p1) ex2 ?_
    refine e_P (st' := [aI 1, aI x2, aI x1, aR 188]) (show decode (mC 217) 55 = .ok (.iconst 1, 1) by decide +kernel) rfl rfl rfl ?_
    refine e_P (st' := [aI (x2 - 1), aI x1, aR 188]) (show decode (mC 217) 56 = .ok (.isub, 1) by decide +kernel) rfl rfl rfl ?_
    exact e_V (as := [aR 188, aI x1, aI (x2 - 1)]) (rest := []) (show decode (mC 217) 57 = .ok (.invokevirtual 281, 3) by decide +kernel) (by decide +kernel) (show (decide ((3 : Nat) = mA 200) && decide (200 < q_law)) = true by decide +kernel) rfl (show (0 : Nat) ≤ 8 by decide) (show (3 : Nat) ≤ mL 200 by decide +kernel) rfl (sh_ok hG (by decide +kernel)) (m5 p1)
  · refine e_P (st' := [aI 0]) (show decode (mC 217) 40 = .ok (.iconst 0, 1) by decide +kernel) rfl rfl rfl ?_
    exact e_zret (show decode (mC 217) 41 = .ok (.ireturn, 1) by decide +kernel) rfl (by decide) (z6 p1)
/-- SoulOfficeModel.goes(I)Z, from 60 -/
theorem b217_60 (hG : Shp G) {v1 v2 : Int}
    (k0 : T (d + 1) 217 2 [some (aR 188), some (aI v1), some (aI (v2 + 1))] [] (G, c) Q) :
    T (d + 1) 217 60 [some (aR 188), some (aI v1), some (aI v2)] [] (G, c) Q := by
  refine e_L (L' := [some (aR 188), some (aI v1), some (aI (v2 + 1))]) (st' := []) (show decode (mC 217) 60 = .ok (.iinc 2 1, 3) by decide +kernel) rfl rfl ?_
  refine e_go (t := 2) (show decode (mC 217) 63 = .ok (.goto (-61), 3) by decide +kernel) (by decide) ?_
  exact k0
/-- SoulOfficeModel.most(I)I, from 0 -/
theorem b218_0 (hG : Shp G) {v1 : Int}
    (m0 : TM d 164 [aI v1, aI 1, aI 30] (G, (q_up c 188 0 0)) (fun r h' => T (d + 1) 218 12 [some (aR 188), some (aI v1), none, none, none, none, none] (r.toList ++ []) h' Q)) :
    T (d + 1) 218 0 [some (aR 188), some (aI v1), none, none, none, none, none] [] (G, c) Q := by
  refine e_L (L' := [some (aR 188), some (aI v1), none, none, none, none, none]) (st' := [aR 188]) (show decode (mC 218) 0 = .ok (.aload_n 0, 1) by decide +kernel) rfl (by show (if 188 = 0 then none else some (_, _)) = _; rw [if_neg (by decide)]) ?_
  refine e_P (st' := [aI 0, aR 188]) (show decode (mC 218) 1 = .ok (.iconst 0, 1) by decide +kernel) rfl rfl rfl ?_
  refine e_putI (show decode (mC 218) 2 = .ok (.putfield 1, 3) by decide +kernel) (show pl 12 1 = some (0, 12, 0, 0) by decide +kernel) (by decide) (sh_ok hG (by decide +kernel)) ?_
  refine e_L (L' := [some (aR 188), some (aI v1), none, none, none, none, none]) (st' := [aI v1]) (show decode (mC 218) 5 = .ok (.iload_n 1, 1) by decide +kernel) rfl rfl ?_
  refine e_P (st' := [aI 1, aI v1]) (show decode (mC 218) 6 = .ok (.iconst 1, 1) by decide +kernel) rfl rfl rfl ?_
  refine e_P (st' := [aI 30, aI 1, aI v1]) (show decode (mC 218) 7 = .ok (.bipush 30, 2) by decide +kernel) rfl rfl rfl ?_
  exact e_S (as := [aI v1, aI 1, aI 30]) (rest := []) (show decode (mC 218) 9 = .ok (.invokestatic 184, 3) by decide +kernel) (by decide +kernel) (show (decide ((3 : Nat) = mA 164) && decide (164 < q_law)) = true by decide +kernel) rfl (show (0 : Nat) ≤ 8 by decide) (show (3 : Nat) ≤ mL 164 by decide +kernel) m0
/-- SoulOfficeModel.most(I)I, from 12 -/
theorem b218_12 (hG : Shp G) {v1 u0 : Int}
    (s0 : -2147483648 ≤ u0 ∧ u0 < 2147483648)
    (k1 : (¬ u0 = 0) → T (d + 1) 218 21 [some (aR 188), some (aI v1), some (aI 0), some (aI 0), none, none, none] [] (G, c) Q)
    (z2 : (u0 = 0) → Q (.inl (some (aI (-1)))) (G, c)) :
    T (d + 1) 218 12 [some (aR 188), some (aI v1), none, none, none, none, none] [aI u0] (G, c) Q := by
  refine e_ne1 (t := 17) (show decode (mC 218) 12 = .ok (.ifCond .ne 5, 3) by decide +kernel) (by decide) s0 (fun p1 => ?_) (fun p1 => ?_)
  · refine e_P (st' := [aI 0]) (show decode (mC 218) 17 = .ok (.iconst 0, 1) by decide +kernel) rfl rfl rfl ?_
    refine e_L (L' := [some (aR 188), some (aI v1), some (aI 0), none, none, none, none]) (st' := []) (show decode (mC 218) 18 = .ok (.istore_n 2, 1) by decide +kernel) rfl rfl ?_
    refine e_P (st' := [aI 0]) (show decode (mC 218) 19 = .ok (.iconst 0, 1) by decide +kernel) rfl rfl rfl ?_
    refine e_L (L' := [some (aR 188), some (aI v1), some (aI 0), some (aI 0), none, none, none]) (st' := []) (show decode (mC 218) 20 = .ok (.istore_n 3, 1) by decide +kernel) rfl rfl ?_
    exact (k1 p1)
  · refine e_P (st' := [aI (-1)]) (show decode (mC 218) 15 = .ok (.iconst (-1), 1) by decide +kernel) rfl rfl rfl ?_
    exact e_iret (show decode (mC 218) 16 = .ok (.ireturn, 1) by decide +kernel) rfl (z2 p1)
/-- SoulOfficeModel.most(I)I, from 21 -/
theorem b218_21 (hG : Shp G) {v1 v2 v3 x1 x2 : Int} (hQ : ∀ o o' h', q_eqo o o' → Q o h' → Q o' h')
    (ex1 : c 190 1 = x1)
    (s1 : -2147483648 ≤ v3 ∧ v3 < 2147483648)
    (s2 : -2147483648 ≤ x1 ∧ x1 < 2147483648)
    (s3 : (x1 ≤ v3) → -2147483648 ≤ v2 ∧ v2 < 2147483648)
    (m4 : (x1 ≤ v3) → (v2 ≤ 5) → TM d 214 [aR 188] (G, c) (fun r h' => T (d + 1) 218 81 [some (aR 188), some (aI v1), some (aI v2), none, none, none, none] (r.toList ++ []) h' Q))
    (z5 : (x1 ≤ v3) → (5 < v2) → Q (.inl (some (aI (-1)))) (G, c))
    (s6 : (v3 < x1) → 0 ≤ (173 + v3))
    (s7 : (v3 < x1) → (173 + v3) < 514)
    (ex2 : c 190 (173 + v3) = x2)
    (s9 : (v3 < x1) → -2147483648 ≤ x2 ∧ x2 < 2147483648)
    (s10 : (v3 < x1) → (x2 ≤ 0) → 0 ≤ v2)
    (s11 : (v3 < x1) → (x2 ≤ 0) → v2 < 8)
    (k12 : (v3 < x1) → (x2 ≤ 0) → T (d + 1) 218 21 [some (aR 188), some (aI v1), some (aI (v2 + 1)), some (aI (v3 + 1)), none, none, none] [] (G, (q_up (q_up c 197 v2 v3) 198 v2 0)) Q)
    (k13 : (v3 < x1) → (0 < x2) → T (d + 1) 218 21 [some (aR 188), some (aI v1), some (aI v2), some (aI (v3 + 1)), none, none, none] [] (G, c) Q) :
    T (d + 1) 218 21 [some (aR 188), some (aI v1), some (aI v2), some (aI v3), none, none, none] [] (G, c) Q := by
  refine e_L (L' := [some (aR 188), some (aI v1), some (aI v2), some (aI v3), none, none, none]) (st' := [aI v3]) (show decode (mC 218) 21 = .ok (.iload_n 3, 1) by decide +kernel) rfl rfl ?_
  refine e_L (L' := [some (aR 188), some (aI v1), some (aI v2), some (aI v3), none, none, none]) (st' := [aR 188, aI v3]) (show decode (mC 218) 22 = .ok (.aload_n 0, 1) by decide +kernel) rfl (by show (if 188 = 0 then none else some (_, _)) = _; rw [if_neg (by decide)]) ?_
  refine e_getR (w := 190) (show decode (mC 218) 23 = .ok (.getfield 33, 3) by decide +kernel) (show pl 12 33 = some (0, 12, 6, 0) by decide +kernel) (by decide) (sh_ok hG (by decide +kernel)) (sh_rf hG (by decide +kernel)) ?_
  refine e_P (st' := [aI 1, aR 190, aI v3]) (show decode (mC 218) 26 = .ok (.iconst 1, 1) by decide +kernel) rfl rfl rfl ?_
  refine e_ialdx (n := 514) (show decode (mC 218) 27 = .ok (.iaload, 1) by decide +kernel) (sh_ok hG (by decide +kernel)) (sh_ln hG (by decide +kernel)) (by decide) (by decide) (by decide) ex1 ?_
  refine e_ge2 (t := 70) (show decode (mC 218) 28 = .ok (.if_icmp .ge 42, 3) by decide +kernel) (by decide) s1 s2 (fun p1 => ?_) (fun p1 => ?_)
  · refine e_L (L' := [some (aR 188), some (aI v1), some (aI v2), some (aI v3), none, none, none]) (st' := [aI v2]) (show decode (mC 218) 70 = .ok (.iload_n 2, 1) by decide +kernel) rfl rfl ?_
    refine e_P (st' := [aI 5, aI v2]) (show decode (mC 218) 71 = .ok (.iconst 5, 1) by decide +kernel) rfl rfl rfl ?_
    refine e_le2 (t := 77) (show decode (mC 218) 72 = .ok (.if_icmp .le 5, 3) by decide +kernel) (by decide) (s3 p1) (by decide) (fun p2 => ?_) (fun p2 => ?_)
    · refine e_L (L' := [some (aR 188), some (aI v1), some (aI v2), some (aI v3), none, none, none]) (st' := [aR 188]) (show decode (mC 218) 77 = .ok (.aload_n 0, 1) by decide +kernel) rfl (by show (if 188 = 0 then none else some (_, _)) = _; rw [if_neg (by decide)]) ?_
      exact e_V (as := [aR 188]) (rest := []) (show decode (mC 218) 78 = .ok (.invokevirtual 299, 3) by decide +kernel) (by decide +kernel) (show (decide ((1 : Nat) = mA 214) && decide (214 < q_law)) = true by decide +kernel) rfl (show (0 : Nat) ≤ 8 by decide) (show (1 : Nat) ≤ mL 214 by decide +kernel) rfl (sh_ok hG (by decide +kernel)) (tm_le hQ (leS (leS (leS (leN (leS (leS (leS leE))))))) (m4 p1 p2))
    · refine e_P (st' := [aI (-1)]) (show decode (mC 218) 75 = .ok (.iconst (-1), 1) by decide +kernel) rfl rfl rfl ?_
      exact e_iret (show decode (mC 218) 76 = .ok (.ireturn, 1) by decide +kernel) rfl (z5 p1 p2)
  · refine e_L (L' := [some (aR 188), some (aI v1), some (aI v2), some (aI v3), none, none, none]) (st' := [aR 188]) (show decode (mC 218) 31 = .ok (.aload_n 0, 1) by decide +kernel) rfl (by show (if 188 = 0 then none else some (_, _)) = _; rw [if_neg (by decide)]) ?_
    refine e_getR (w := 190) (show decode (mC 218) 32 = .ok (.getfield 33, 3) by decide +kernel) (show pl 12 33 = some (0, 12, 6, 0) by decide +kernel) (by decide) (sh_ok hG (by decide +kernel)) (sh_rf hG (by decide +kernel)) ?_
    refine e_P (st' := [aI 173, aR 190]) (show decode (mC 218) 35 = .ok (.sipush 173, 3) by decide +kernel) rfl rfl rfl ?_
    refine e_L (L' := [some (aR 188), some (aI v1), some (aI v2), some (aI v3), none, none, none]) (st' := [aI v3, aI 173, aR 190]) (show decode (mC 218) 38 = .ok (.iload_n 3, 1) by decide +kernel) rfl rfl ?_
    refine e_P (st' := [aI (173 + v3), aR 190]) (show decode (mC 218) 39 = .ok (.iadd, 1) by decide +kernel) rfl rfl rfl ?_
    refine e_ialdx (n := 514) (show decode (mC 218) 40 = .ok (.iaload, 1) by decide +kernel) (sh_ok hG (by decide +kernel)) (sh_ln hG (by decide +kernel)) (by decide) (s6 p1) (s7 p1) ex2 ?_
    refine e_le1 (t := 47) (show decode (mC 218) 41 = .ok (.ifCond .le 6, 3) by decide +kernel) (by decide) (s9 p1) (fun p2 => ?_) (fun p2 => ?_)
    · refine e_L (L' := [some (aR 188), some (aI v1), some (aI v2), some (aI v3), none, none, none]) (st' := [aR 188]) (show decode (mC 218) 47 = .ok (.aload_n 0, 1) by decide +kernel) rfl (by show (if 188 = 0 then none else some (_, _)) = _; rw [if_neg (by decide)]) ?_
      refine e_getR (w := 197) (show decode (mC 218) 48 = .ok (.getfield 56, 3) by decide +kernel) (show pl 12 56 = some (0, 12, 24, 0) by decide +kernel) (by decide) (sh_ok hG (by decide +kernel)) (sh_rf hG (by decide +kernel)) ?_
      refine e_L (L' := [some (aR 188), some (aI v1), some (aI v2), some (aI v3), none, none, none]) (st' := [aI v2, aR 197]) (show decode (mC 218) 51 = .ok (.iload_n 2, 1) by decide +kernel) rfl rfl ?_
      refine e_L (L' := [some (aR 188), some (aI v1), some (aI v2), some (aI v3), none, none, none]) (st' := [aI v3, aI v2, aR 197]) (show decode (mC 218) 52 = .ok (.iload_n 3, 1) by decide +kernel) rfl rfl ?_
      refine e_iast (n := 8) (show decode (mC 218) 53 = .ok (.iastore, 1) by decide +kernel) (sh_ok hG (by decide +kernel)) (sh_ln hG (by decide +kernel)) (by decide) (s10 p1 p2) (s11 p1 p2) ?_
      refine e_L (L' := [some (aR 188), some (aI v1), some (aI v2), some (aI v3), none, none, none]) (st' := [aR 188]) (show decode (mC 218) 54 = .ok (.aload_n 0, 1) by decide +kernel) rfl (by show (if 188 = 0 then none else some (_, _)) = _; rw [if_neg (by decide)]) ?_
      refine e_getR (w := 198) (show decode (mC 218) 55 = .ok (.getfield 59, 3) by decide +kernel) (show pl 12 59 = some (0, 12, 25, 0) by decide +kernel) (by decide) (sh_ok hG (by decide +kernel)) (sh_rf hG (by decide +kernel)) ?_
      refine e_L (L' := [some (aR 188), some (aI v1), some (aI v2), some (aI v3), none, none, none]) (st' := [aI v2, aR 198]) (show decode (mC 218) 58 = .ok (.iload_n 2, 1) by decide +kernel) rfl rfl ?_
      refine e_P (st' := [aI 0, aI v2, aR 198]) (show decode (mC 218) 59 = .ok (.iconst 0, 1) by decide +kernel) rfl rfl rfl ?_
      refine e_iast (n := 8) (show decode (mC 218) 60 = .ok (.iastore, 1) by decide +kernel) (sh_ok hG (by decide +kernel)) (sh_ln hG (by decide +kernel)) (by decide) (s10 p1 p2) (s11 p1 p2) ?_
      refine e_L (L' := [some (aR 188), some (aI v1), some (aI (v2 + 1)), some (aI v3), none, none, none]) (st' := []) (show decode (mC 218) 61 = .ok (.iinc 2 1, 3) by decide +kernel) rfl rfl ?_
      refine e_L (L' := [some (aR 188), some (aI v1), some (aI (v2 + 1)), some (aI (v3 + 1)), none, none, none]) (st' := []) (show decode (mC 218) 64 = .ok (.iinc 3 1, 3) by decide +kernel) rfl rfl ?_
      refine e_go (t := 21) (show decode (mC 218) 67 = .ok (.goto (-46), 3) by decide +kernel) (by decide) ?_
      exact (k12 p1 p2)
    · refine e_go (t := 64) (show decode (mC 218) 44 = .ok (.goto 20, 3) by decide +kernel) (by decide) ?_
      refine e_L (L' := [some (aR 188), some (aI v1), some (aI v2), some (aI (v3 + 1)), none, none, none]) (st' := []) (show decode (mC 218) 64 = .ok (.iinc 3 1, 3) by decide +kernel) rfl rfl ?_
      refine e_go (t := 21) (show decode (mC 218) 67 = .ok (.goto (-46), 3) by decide +kernel) (by decide) ?_
      exact (k13 p1 p2)
/-- SoulOfficeModel.most(I)I, from 81 -/
theorem b218_81 (hG : Shp G) {v1 v2 x1 : Int}
    (ex1 : c 190 169 = x1)
    (k1 : T (d + 1) 218 96 [some (aR 188), some (aI v1), some (aI v2), some (aI x1), some (aI (-1)), some (aI 1), none] [] (G, c) Q) :
    T (d + 1) 218 81 [some (aR 188), some (aI v1), some (aI v2), none, none, none, none] [] (G, c) Q := by
  refine e_L (L' := [some (aR 188), some (aI v1), some (aI v2), none, none, none, none]) (st' := [aR 188]) (show decode (mC 218) 81 = .ok (.aload_n 0, 1) by decide +kernel) rfl (by show (if 188 = 0 then none else some (_, _)) = _; rw [if_neg (by decide)]) ?_
  refine e_getR (w := 190) (show decode (mC 218) 82 = .ok (.getfield 33, 3) by decide +kernel) (show pl 12 33 = some (0, 12, 6, 0) by decide +kernel) (by decide) (sh_ok hG (by decide +kernel)) (sh_rf hG (by decide +kernel)) ?_
  refine e_P (st' := [aI 169, aR 190]) (show decode (mC 218) 85 = .ok (.sipush 169, 3) by decide +kernel) rfl rfl rfl ?_
  refine e_ialdx (n := 514) (show decode (mC 218) 88 = .ok (.iaload, 1) by decide +kernel) (sh_ok hG (by decide +kernel)) (sh_ln hG (by decide +kernel)) (by decide) (by decide) (by decide) ex1 ?_
  refine e_L (L' := [some (aR 188), some (aI v1), some (aI v2), some (aI x1), none, none, none]) (st' := []) (show decode (mC 218) 89 = .ok (.istore_n 3, 1) by decide +kernel) rfl rfl ?_
  refine e_P (st' := [aI (-1)]) (show decode (mC 218) 90 = .ok (.iconst (-1), 1) by decide +kernel) rfl rfl rfl ?_
  refine e_L (L' := [some (aR 188), some (aI v1), some (aI v2), some (aI x1), some (aI (-1)), none, none]) (st' := []) (show decode (mC 218) 91 = .ok (.istore 4, 2) by decide +kernel) rfl rfl ?_
  refine e_P (st' := [aI 1]) (show decode (mC 218) 93 = .ok (.iconst 1, 1) by decide +kernel) rfl rfl rfl ?_
  refine e_L (L' := [some (aR 188), some (aI v1), some (aI v2), some (aI x1), some (aI (-1)), some (aI 1), none]) (st' := []) (show decode (mC 218) 94 = .ok (.istore 5, 2) by decide +kernel) rfl rfl ?_
  exact k1
/-- SoulOfficeModel.most(I)I, from 96 -/
theorem b218_96 (hG : Shp G) {v1 v2 v3 v4 v5 x1 : Int} (hQ : ∀ o o' h', q_eqo o o' → Q o h' → Q o' h')
    (s0 : -2147483648 ≤ v5 ∧ v5 < 2147483648)
    (ex1 : c 190 1 = x1)
    (z2 : (v5 = 0) → Q (.inl (some (aI v4))) (G, (q_up c 188 27 x1)))
    (m3 : (¬ v5 = 0) → TM d 217 [aR 188, aI v2] (G, c) (fun r h' => T (d + 1) 218 106 [some (aR 188), some (aI v1), some (aI v2), some (aI v3), some (aI v4), none, none] (r.toList ++ []) h' Q)) :
    T (d + 1) 218 96 [some (aR 188), some (aI v1), some (aI v2), some (aI v3), some (aI v4), some (aI v5), none] [] (G, c) Q := by
  refine e_L (L' := [some (aR 188), some (aI v1), some (aI v2), some (aI v3), some (aI v4), some (aI v5), none]) (st' := [aI v5]) (show decode (mC 218) 96 = .ok (.iload 5, 2) by decide +kernel) rfl rfl ?_
  refine e_eq1 (t := 229) (show decode (mC 218) 98 = .ok (.ifCond .eq 131, 3) by decide +kernel) (by decide) s0 (fun p1 => ?_) (fun p1 => ?_)
  · refine e_L (L' := [some (aR 188), some (aI v1), some (aI v2), some (aI v3), some (aI v4), some (aI v5), none]) (st' := [aR 188]) (show decode (mC 218) 229 = .ok (.aload_n 0, 1) by decide +kernel) rfl (by show (if 188 = 0 then none else some (_, _)) = _; rw [if_neg (by decide)]) ?_
    refine e_L (L' := [some (aR 188), some (aI v1), some (aI v2), some (aI v3), some (aI v4), some (aI v5), none]) (st' := [aR 188, aR 188]) (show decode (mC 218) 230 = .ok (.aload_n 0, 1) by decide +kernel) rfl (by show (if 188 = 0 then none else some (_, _)) = _; rw [if_neg (by decide)]) ?_
    refine e_getR (w := 190) (show decode (mC 218) 231 = .ok (.getfield 33, 3) by decide +kernel) (show pl 12 33 = some (0, 12, 6, 0) by decide +kernel) (by decide) (sh_ok hG (by decide +kernel)) (sh_rf hG (by decide +kernel)) ?_
    refine e_P (st' := [aI 1, aR 190, aR 188]) (show decode (mC 218) 234 = .ok (.iconst 1, 1) by decide +kernel) rfl rfl rfl ?_
    refine e_ialdx (n := 514) (show decode (mC 218) 235 = .ok (.iaload, 1) by decide +kernel) (sh_ok hG (by decide +kernel)) (sh_ln hG (by decide +kernel)) (by decide) (by decide) (by decide) ex1 ?_
    refine e_putI (show decode (mC 218) 236 = .ok (.putfield 65, 3) by decide +kernel) (show pl 12 65 = some (0, 12, 27, 0) by decide +kernel) (by decide) (sh_ok hG (by decide +kernel)) ?_
    refine e_L (L' := [some (aR 188), some (aI v1), some (aI v2), some (aI v3), some (aI v4), some (aI v5), none]) (st' := [aI v4]) (show decode (mC 218) 239 = .ok (.iload 4, 2) by decide +kernel) rfl rfl ?_
    exact e_iret (show decode (mC 218) 241 = .ok (.ireturn, 1) by decide +kernel) rfl (z2 p1)
  · refine e_L (L' := [some (aR 188), some (aI v1), some (aI v2), some (aI v3), some (aI v4), some (aI v5), none]) (st' := [aR 188]) (show decode (mC 218) 101 = .ok (.aload_n 0, 1) by decide +kernel) rfl (by show (if 188 = 0 then none else some (_, _)) = _; rw [if_neg (by decide)]) ?_
    refine e_L (L' := [some (aR 188), some (aI v1), some (aI v2), some (aI v3), some (aI v4), some (aI v5), none]) (st' := [aI v2, aR 188]) (show decode (mC 218) 102 = .ok (.iload_n 2, 1) by decide +kernel) rfl rfl ?_
    exact e_V (as := [aR 188, aI v2]) (rest := []) (show decode (mC 218) 103 = .ok (.invokevirtual 302, 3) by decide +kernel) (by decide +kernel) (show (decide ((2 : Nat) = mA 217) && decide (217 < q_law)) = true by decide +kernel) rfl (show (0 : Nat) ≤ 8 by decide) (show (2 : Nat) ≤ mL 217 by decide +kernel) rfl (sh_ok hG (by decide +kernel)) (tm_le hQ (leS (leS (leS (leS (leS (leN (leS leE))))))) (m3 p1))
/-- SoulOfficeModel.most(I)I, from 106 -/
theorem b218_106 (hG : Shp G) {v1 v2 v3 v4 u0 : Int}
    (s0 : -2147483648 ≤ u0 ∧ u0 < 2147483648)
    (m1 : (u0 = 0) → TM d 215 [aR 188] (G, c) (fun r h' => T (d + 1) 218 219 [some (aR 188), some (aI v1), some (aI v2), some (aI v3), some (aI v4), none, none] (r.toList ++ []) h' Q))
    (k2 : (¬ u0 = 0) → T (d + 1) 218 112 [some (aR 188), some (aI v1), some (aI v2), some (aI v3), some (aI v4), none, some (aI 0)] [] (G, c) Q) :
    T (d + 1) 218 106 [some (aR 188), some (aI v1), some (aI v2), some (aI v3), some (aI v4), none, none] [aI u0] (G, c) Q := by
  refine e_eq1 (t := 215) (show decode (mC 218) 106 = .ok (.ifCond .eq 109, 3) by decide +kernel) (by decide) s0 (fun p1 => ?_) (fun p1 => ?_)
  · refine e_L (L' := [some (aR 188), some (aI v1), some (aI v2), some (aI v3), some (aI v4), none, none]) (st' := [aR 188]) (show decode (mC 218) 215 = .ok (.aload_n 0, 1) by decide +kernel) rfl (by show (if 188 = 0 then none else some (_, _)) = _; rw [if_neg (by decide)]) ?_
    exact e_V (as := [aR 188]) (rest := []) (show decode (mC 218) 216 = .ok (.invokevirtual 305, 3) by decide +kernel) (by decide +kernel) (show (decide ((1 : Nat) = mA 215) && decide (215 < q_law)) = true by decide +kernel) rfl (show (0 : Nat) ≤ 8 by decide) (show (1 : Nat) ≤ mL 215 by decide +kernel) rfl (sh_ok hG (by decide +kernel)) (m1 p1)
  · refine e_P (st' := [aI 0]) (show decode (mC 218) 109 = .ok (.iconst 0, 1) by decide +kernel) rfl rfl rfl ?_
    refine e_L (L' := [some (aR 188), some (aI v1), some (aI v2), some (aI v3), some (aI v4), none, some (aI 0)]) (st' := []) (show decode (mC 218) 110 = .ok (.istore 6, 2) by decide +kernel) rfl rfl ?_
    exact (k2 p1)
/-- SoulOfficeModel.most(I)I, from 112 -/
theorem b218_112 (hG : Shp G) {v1 v2 v3 v4 v6 x1 x2 : Int} (hQ : ∀ o o' h', q_eqo o o' → Q o h' → Q o' h')
    (s0 : -2147483648 ≤ v6 ∧ v6 < 2147483648)
    (s1 : -2147483648 ≤ v1 ∧ v1 < 2147483648)
    (ex1 : c 190 169 = x1)
    (s3 : (v1 ≤ v6) → -2147483648 ≤ (x1 - v3) ∧ (x1 - v3) < 2147483648)
    (s4 : (v1 ≤ v6) → -2147483648 ≤ v4 ∧ v4 < 2147483648)
    (m5 : (v1 ≤ v6) → ((x1 - v3) ≤ v4) → TM d 215 [aR 188] (G, c) (fun r h' => T (d + 1) 218 219 [some (aR 188), some (aI v1), some (aI v2), some (aI v3), some (aI v4), none, none] (r.toList ++ []) h' Q))
    (ex2 : c 190 169 = x2)
    (k7 : (v1 ≤ v6) → (v4 < (x1 - v3)) → T (d + 1) 218 158 [some (aR 188), some (aI v1), some (aI v2), some (aI v3), some (aI (x2 - v3)), none, some (aI 0)] [] (G, c) Q)
    (m8 : (v6 < v1) → TM d 202 [aR 188] (G, c) (fun r h' => T (d + 1) 218 122 [some (aR 188), some (aI v1), some (aI v2), some (aI v3), some (aI v4), none, some (aI v6)] (r.toList ++ []) h' Q)) :
    T (d + 1) 218 112 [some (aR 188), some (aI v1), some (aI v2), some (aI v3), some (aI v4), none, some (aI v6)] [] (G, c) Q := by
  refine e_L (L' := [some (aR 188), some (aI v1), some (aI v2), some (aI v3), some (aI v4), none, some (aI v6)]) (st' := [aI v6]) (show decode (mC 218) 112 = .ok (.iload 6, 2) by decide +kernel) rfl rfl ?_
  refine e_L (L' := [some (aR 188), some (aI v1), some (aI v2), some (aI v3), some (aI v4), none, some (aI v6)]) (st' := [aI v1, aI v6]) (show decode (mC 218) 114 = .ok (.iload_n 1, 1) by decide +kernel) rfl rfl ?_
  refine e_ge2 (t := 128) (show decode (mC 218) 115 = .ok (.if_icmp .ge 13, 3) by decide +kernel) (by decide) s0 s1 (fun p1 => ?_) (fun p1 => ?_)
  · refine e_L (L' := [some (aR 188), some (aI v1), some (aI v2), some (aI v3), some (aI v4), none, some (aI v6)]) (st' := [aR 188]) (show decode (mC 218) 128 = .ok (.aload_n 0, 1) by decide +kernel) rfl (by show (if 188 = 0 then none else some (_, _)) = _; rw [if_neg (by decide)]) ?_
    refine e_getR (w := 190) (show decode (mC 218) 129 = .ok (.getfield 33, 3) by decide +kernel) (show pl 12 33 = some (0, 12, 6, 0) by decide +kernel) (by decide) (sh_ok hG (by decide +kernel)) (sh_rf hG (by decide +kernel)) ?_
    refine e_P (st' := [aI 169, aR 190]) (show decode (mC 218) 132 = .ok (.sipush 169, 3) by decide +kernel) rfl rfl rfl ?_
    refine e_ialdx (n := 514) (show decode (mC 218) 135 = .ok (.iaload, 1) by decide +kernel) (sh_ok hG (by decide +kernel)) (sh_ln hG (by decide +kernel)) (by decide) (by decide) (by decide) ex1 ?_
    refine e_L (L' := [some (aR 188), some (aI v1), some (aI v2), some (aI v3), some (aI v4), none, some (aI v6)]) (st' := [aI v3, aI x1]) (show decode (mC 218) 136 = .ok (.iload_n 3, 1) by decide +kernel) rfl rfl ?_
    refine e_P (st' := [aI (x1 - v3)]) (show decode (mC 218) 137 = .ok (.isub, 1) by decide +kernel) rfl rfl rfl ?_
    refine e_L (L' := [some (aR 188), some (aI v1), some (aI v2), some (aI v3), some (aI v4), none, some (aI v6)]) (st' := [aI v4, aI (x1 - v3)]) (show decode (mC 218) 138 = .ok (.iload 4, 2) by decide +kernel) rfl rfl ?_
    refine e_le2 (t := 215) (show decode (mC 218) 140 = .ok (.if_icmp .le 75, 3) by decide +kernel) (by decide) (s3 p1) (s4 p1) (fun p2 => ?_) (fun p2 => ?_)
    · refine e_L (L' := [some (aR 188), some (aI v1), some (aI v2), some (aI v3), some (aI v4), none, some (aI v6)]) (st' := [aR 188]) (show decode (mC 218) 215 = .ok (.aload_n 0, 1) by decide +kernel) rfl (by show (if 188 = 0 then none else some (_, _)) = _; rw [if_neg (by decide)]) ?_
      exact e_V (as := [aR 188]) (rest := []) (show decode (mC 218) 216 = .ok (.invokevirtual 305, 3) by decide +kernel) (by decide +kernel) (show (decide ((1 : Nat) = mA 215) && decide (215 < q_law)) = true by decide +kernel) rfl (show (0 : Nat) ≤ 8 by decide) (show (1 : Nat) ≤ mL 215 by decide +kernel) rfl (sh_ok hG (by decide +kernel)) (tm_le hQ (leS (leS (leS (leS (leS (leS (leN leE))))))) (m5 p1 p2))
    · refine e_L (L' := [some (aR 188), some (aI v1), some (aI v2), some (aI v3), some (aI v4), none, some (aI v6)]) (st' := [aR 188]) (show decode (mC 218) 143 = .ok (.aload_n 0, 1) by decide +kernel) rfl (by show (if 188 = 0 then none else some (_, _)) = _; rw [if_neg (by decide)]) ?_
      refine e_getR (w := 190) (show decode (mC 218) 144 = .ok (.getfield 33, 3) by decide +kernel) (show pl 12 33 = some (0, 12, 6, 0) by decide +kernel) (by decide) (sh_ok hG (by decide +kernel)) (sh_rf hG (by decide +kernel)) ?_
      refine e_P (st' := [aI 169, aR 190]) (show decode (mC 218) 147 = .ok (.sipush 169, 3) by decide +kernel) rfl rfl rfl ?_
      refine e_ialdx (n := 514) (show decode (mC 218) 150 = .ok (.iaload, 1) by decide +kernel) (sh_ok hG (by decide +kernel)) (sh_ln hG (by decide +kernel)) (by decide) (by decide) (by decide) ex2 ?_
      refine e_L (L' := [some (aR 188), some (aI v1), some (aI v2), some (aI v3), some (aI v4), none, some (aI v6)]) (st' := [aI v3, aI x2]) (show decode (mC 218) 151 = .ok (.iload_n 3, 1) by decide +kernel) rfl rfl ?_
      refine e_P (st' := [aI (x2 - v3)]) (show decode (mC 218) 152 = .ok (.isub, 1) by decide +kernel) rfl rfl rfl ?_
      refine e_L (L' := [some (aR 188), some (aI v1), some (aI v2), some (aI v3), some (aI (x2 - v3)), none, some (aI v6)]) (st' := []) (show decode (mC 218) 153 = .ok (.istore 4, 2) by decide +kernel) rfl rfl ?_
      refine e_P (st' := [aI 0]) (show decode (mC 218) 155 = .ok (.iconst 0, 1) by decide +kernel) rfl rfl rfl ?_
      refine e_L (L' := [some (aR 188), some (aI v1), some (aI v2), some (aI v3), some (aI (x2 - v3)), none, some (aI 0)]) (st' := []) (show decode (mC 218) 156 = .ok (.istore 6, 2) by decide +kernel) rfl rfl ?_
      exact (k7 p1 p2)
  · refine e_L (L' := [some (aR 188), some (aI v1), some (aI v2), some (aI v3), some (aI v4), none, some (aI v6)]) (st' := [aR 188]) (show decode (mC 218) 118 = .ok (.aload_n 0, 1) by decide +kernel) rfl (by show (if 188 = 0 then none else some (_, _)) = _; rw [if_neg (by decide)]) ?_
    exact e_V (as := [aR 188]) (rest := []) (show decode (mC 218) 119 = .ok (.invokevirtual 287, 3) by decide +kernel) (by decide +kernel) (show (decide ((1 : Nat) = mA 202) && decide (202 < q_law)) = true by decide +kernel) rfl (show (0 : Nat) ≤ 8 by decide) (show (1 : Nat) ≤ mL 202 by decide +kernel) rfl (sh_ok hG (by decide +kernel)) (m8 p1)
/-- SoulOfficeModel.most(I)I, from 122 -/
theorem b218_122 (hG : Shp G) {v1 v2 v3 v4 v6 : Int}
    (k0 : T (d + 1) 218 112 [some (aR 188), some (aI v1), some (aI v2), some (aI v3), some (aI v4), none, some (aI (v6 + 1))] [] (G, c) Q) :
    T (d + 1) 218 122 [some (aR 188), some (aI v1), some (aI v2), some (aI v3), some (aI v4), none, some (aI v6)] [] (G, c) Q := by
  refine e_L (L' := [some (aR 188), some (aI v1), some (aI v2), some (aI v3), some (aI v4), none, some (aI (v6 + 1))]) (st' := []) (show decode (mC 218) 122 = .ok (.iinc 6 1, 3) by decide +kernel) rfl rfl ?_
  refine e_go (t := 112) (show decode (mC 218) 125 = .ok (.goto (-13), 3) by decide +kernel) (by decide) ?_
  exact k0
/-- SoulOfficeModel.most(I)I, from 158 -/
theorem b218_158 (hG : Shp G) {v1 v2 v3 v4 v6 : Int}
    (s0 : -2147483648 ≤ v6 ∧ v6 < 2147483648)
    (k1 : (8 ≤ v6) → T (d + 1) 218 182 [some (aR 188), some (aI v1), some (aI v2), some (aI v3), some (aI v4), none, some (aI 0)] [] (G, c) Q)
    (s2 : (v6 < 8) → 0 ≤ v6)
    (s3 : (v6 < 8) → v6 < 8)
    (k4 : (v6 < 8) → T (d + 1) 218 158 [some (aR 188), some (aI v1), some (aI v2), some (aI v3), some (aI v4), none, some (aI (v6 + 1))] [] (G, (q_up c 199 v6 (-1))) Q) :
    T (d + 1) 218 158 [some (aR 188), some (aI v1), some (aI v2), some (aI v3), some (aI v4), none, some (aI v6)] [] (G, c) Q := by
  refine e_L (L' := [some (aR 188), some (aI v1), some (aI v2), some (aI v3), some (aI v4), none, some (aI v6)]) (st' := [aI v6]) (show decode (mC 218) 158 = .ok (.iload 6, 2) by decide +kernel) rfl rfl ?_
  refine e_P (st' := [aI 8, aI v6]) (show decode (mC 218) 160 = .ok (.bipush 8, 2) by decide +kernel) rfl rfl rfl ?_
  refine e_ge2 (t := 179) (show decode (mC 218) 162 = .ok (.if_icmp .ge 17, 3) by decide +kernel) (by decide) s0 (by decide) (fun p1 => ?_) (fun p1 => ?_)
  · refine e_P (st' := [aI 0]) (show decode (mC 218) 179 = .ok (.iconst 0, 1) by decide +kernel) rfl rfl rfl ?_
    refine e_L (L' := [some (aR 188), some (aI v1), some (aI v2), some (aI v3), some (aI v4), none, some (aI 0)]) (st' := []) (show decode (mC 218) 180 = .ok (.istore 6, 2) by decide +kernel) rfl rfl ?_
    exact (k1 p1)
  · refine e_L (L' := [some (aR 188), some (aI v1), some (aI v2), some (aI v3), some (aI v4), none, some (aI v6)]) (st' := [aR 188]) (show decode (mC 218) 165 = .ok (.aload_n 0, 1) by decide +kernel) rfl (by show (if 188 = 0 then none else some (_, _)) = _; rw [if_neg (by decide)]) ?_
    refine e_getR (w := 199) (show decode (mC 218) 166 = .ok (.getfield 62, 3) by decide +kernel) (show pl 12 62 = some (0, 12, 26, 0) by decide +kernel) (by decide) (sh_ok hG (by decide +kernel)) (sh_rf hG (by decide +kernel)) ?_
    refine e_L (L' := [some (aR 188), some (aI v1), some (aI v2), some (aI v3), some (aI v4), none, some (aI v6)]) (st' := [aI v6, aR 199]) (show decode (mC 218) 169 = .ok (.iload 6, 2) by decide +kernel) rfl rfl ?_
    refine e_P (st' := [aI (-1), aI v6, aR 199]) (show decode (mC 218) 171 = .ok (.iconst (-1), 1) by decide +kernel) rfl rfl rfl ?_
    refine e_iast (n := 8) (show decode (mC 218) 172 = .ok (.iastore, 1) by decide +kernel) (sh_ok hG (by decide +kernel)) (sh_ln hG (by decide +kernel)) (by decide) (s2 p1) (s3 p1) ?_
    refine e_L (L' := [some (aR 188), some (aI v1), some (aI v2), some (aI v3), some (aI v4), none, some (aI (v6 + 1))]) (st' := []) (show decode (mC 218) 173 = .ok (.iinc 6 1, 3) by decide +kernel) rfl rfl ?_
    refine e_go (t := 158) (show decode (mC 218) 176 = .ok (.goto (-18), 3) by decide +kernel) (by decide) ?_
    exact (k4 p1)
/-- SoulOfficeModel.most(I)I, from 182 -/
theorem b218_182 (hG : Shp G) {v1 v2 v3 v4 v6 x1 x2 : Int} (hQ : ∀ o o' h', q_eqo o o' → Q o h' → Q o' h')
    (s0 : -2147483648 ≤ v6 ∧ v6 < 2147483648)
    (s1 : -2147483648 ≤ v2 ∧ v2 < 2147483648)
    (m2 : (v2 ≤ v6) → TM d 215 [aR 188] (G, c) (fun r h' => T (d + 1) 218 219 [some (aR 188), some (aI v1), some (aI v2), some (aI v3), some (aI v4), none, none] (r.toList ++ []) h' Q))
    (s3 : (v6 < v2) → 0 ≤ v6)
    (s4 : (v6 < v2) → v6 < 8)
    (ex1 : c 197 v6 = x1)
    (ex2 : c 198 v6 = x2)
    (s7 : (v6 < v2) → 0 ≤ x1)
    (s8 : (v6 < v2) → x1 < 8)
    (k9 : (v6 < v2) → T (d + 1) 218 182 [some (aR 188), some (aI v1), some (aI v2), some (aI v3), some (aI v4), none, some (aI (v6 + 1))] [] (G, (q_up c 199 x1 (x2 - 1))) Q) :
    T (d + 1) 218 182 [some (aR 188), some (aI v1), some (aI v2), some (aI v3), some (aI v4), none, some (aI v6)] [] (G, c) Q := by
  refine e_L (L' := [some (aR 188), some (aI v1), some (aI v2), some (aI v3), some (aI v4), none, some (aI v6)]) (st' := [aI v6]) (show decode (mC 218) 182 = .ok (.iload 6, 2) by decide +kernel) rfl rfl ?_
  refine e_L (L' := [some (aR 188), some (aI v1), some (aI v2), some (aI v3), some (aI v4), none, some (aI v6)]) (st' := [aI v2, aI v6]) (show decode (mC 218) 184 = .ok (.iload_n 2, 1) by decide +kernel) rfl rfl ?_
  refine e_ge2 (t := 215) (show decode (mC 218) 185 = .ok (.if_icmp .ge 30, 3) by decide +kernel) (by decide) s0 s1 (fun p1 => ?_) (fun p1 => ?_)
  · refine e_L (L' := [some (aR 188), some (aI v1), some (aI v2), some (aI v3), some (aI v4), none, some (aI v6)]) (st' := [aR 188]) (show decode (mC 218) 215 = .ok (.aload_n 0, 1) by decide +kernel) rfl (by show (if 188 = 0 then none else some (_, _)) = _; rw [if_neg (by decide)]) ?_
    exact e_V (as := [aR 188]) (rest := []) (show decode (mC 218) 216 = .ok (.invokevirtual 305, 3) by decide +kernel) (by decide +kernel) (show (decide ((1 : Nat) = mA 215) && decide (215 < q_law)) = true by decide +kernel) rfl (show (0 : Nat) ≤ 8 by decide) (show (1 : Nat) ≤ mL 215 by decide +kernel) rfl (sh_ok hG (by decide +kernel)) (tm_le hQ (leS (leS (leS (leS (leS (leS (leN leE))))))) (m2 p1))
  · refine e_L (L' := [some (aR 188), some (aI v1), some (aI v2), some (aI v3), some (aI v4), none, some (aI v6)]) (st' := [aR 188]) (show decode (mC 218) 188 = .ok (.aload_n 0, 1) by decide +kernel) rfl (by show (if 188 = 0 then none else some (_, _)) = _; rw [if_neg (by decide)]) ?_
    refine e_getR (w := 199) (show decode (mC 218) 189 = .ok (.getfield 62, 3) by decide +kernel) (show pl 12 62 = some (0, 12, 26, 0) by decide +kernel) (by decide) (sh_ok hG (by decide +kernel)) (sh_rf hG (by decide +kernel)) ?_
    refine e_L (L' := [some (aR 188), some (aI v1), some (aI v2), some (aI v3), some (aI v4), none, some (aI v6)]) (st' := [aR 188, aR 199]) (show decode (mC 218) 192 = .ok (.aload_n 0, 1) by decide +kernel) rfl (by show (if 188 = 0 then none else some (_, _)) = _; rw [if_neg (by decide)]) ?_
    refine e_getR (w := 197) (show decode (mC 218) 193 = .ok (.getfield 56, 3) by decide +kernel) (show pl 12 56 = some (0, 12, 24, 0) by decide +kernel) (by decide) (sh_ok hG (by decide +kernel)) (sh_rf hG (by decide +kernel)) ?_
    refine e_L (L' := [some (aR 188), some (aI v1), some (aI v2), some (aI v3), some (aI v4), none, some (aI v6)]) (st' := [aI v6, aR 197, aR 199]) (show decode (mC 218) 196 = .ok (.iload 6, 2) by decide +kernel) rfl rfl ?_
    refine e_ialdx (n := 8) (show decode (mC 218) 198 = .ok (.iaload, 1) by decide +kernel) (sh_ok hG (by decide +kernel)) (sh_ln hG (by decide +kernel)) (by decide) (s3 p1) (s4 p1) ex1 ?_
    refine e_L (L' := [some (aR 188), some (aI v1), some (aI v2), some (aI v3), some (aI v4), none, some (aI v6)]) (st' := [aR 188, aI x1, aR 199]) (show decode (mC 218) 199 = .ok (.aload_n 0, 1) by decide +kernel) rfl (by show (if 188 = 0 then none else some (_, _)) = _; rw [if_neg (by decide)]) ?_
    refine e_getR (w := 198) (show decode (mC 218) 200 = .ok (.getfield 59, 3) by decide +kernel) (show pl 12 59 = some (0, 12, 25, 0) by decide +kernel) (by decide) (sh_ok hG (by decide +kernel)) (sh_rf hG (by decide +kernel)) ?_
    refine e_L (L' := [some (aR 188), some (aI v1), some (aI v2), some (aI v3), some (aI v4), none, some (aI v6)]) (st' := [aI v6, aR 198, aI x1, aR 199]) (show decode (mC 218) 203 = .ok (.iload 6, 2) by decide +kernel) rfl rfl ?_
    refine e_ialdx (n := 8) (show decode (mC 218) 205 = .ok (.iaload, 1) by decide +kernel) (sh_ok hG (by decide +kernel)) (sh_ln hG (by decide +kernel)) (by decide) (s3 p1) (s4 p1) ex2 ?_
    refine e_P (st' := [aI 1, aI x2, aI x1, aR 199]) (show decode (mC 218) 206 = .ok (.iconst 1, 1) by decide +kernel) rfl rfl rfl ?_
    refine e_P (st' := [aI (x2 - 1), aI x1, aR 199]) (show decode (mC 218) 207 = .ok (.isub, 1) by decide +kernel) rfl rfl rfl ?_
    refine e_iast (n := 8) (show decode (mC 218) 208 = .ok (.iastore, 1) by decide +kernel) (sh_ok hG (by decide +kernel)) (sh_ln hG (by decide +kernel)) (by decide) (s7 p1) (s8 p1) ?_
    refine e_L (L' := [some (aR 188), some (aI v1), some (aI v2), some (aI v3), some (aI v4), none, some (aI (v6 + 1))]) (st' := []) (show decode (mC 218) 209 = .ok (.iinc 6 1, 3) by decide +kernel) rfl rfl ?_
    refine e_go (t := 182) (show decode (mC 218) 212 = .ok (.goto (-30), 3) by decide +kernel) (by decide) ?_
    exact (k9 p1)
/-- SoulOfficeModel.most(I)I, from 219 -/
theorem b218_219 (hG : Shp G) {v1 v2 v3 v4 : Int}
    (m0 : TM d 216 [aR 188, aI v2] (G, c) (fun r h' => T (d + 1) 218 224 [some (aR 188), some (aI v1), some (aI v2), some (aI v3), some (aI v4), none, none] (r.toList ++ []) h' Q)) :
    T (d + 1) 218 219 [some (aR 188), some (aI v1), some (aI v2), some (aI v3), some (aI v4), none, none] [] (G, c) Q := by
  refine e_L (L' := [some (aR 188), some (aI v1), some (aI v2), some (aI v3), some (aI v4), none, none]) (st' := [aR 188]) (show decode (mC 218) 219 = .ok (.aload_n 0, 1) by decide +kernel) rfl (by show (if 188 = 0 then none else some (_, _)) = _; rw [if_neg (by decide)]) ?_
  refine e_L (L' := [some (aR 188), some (aI v1), some (aI v2), some (aI v3), some (aI v4), none, none]) (st' := [aI v2, aR 188]) (show decode (mC 218) 220 = .ok (.iload_n 2, 1) by decide +kernel) rfl rfl ?_
  exact e_V (as := [aR 188, aI v2]) (rest := []) (show decode (mC 218) 221 = .ok (.invokevirtual 308, 3) by decide +kernel) (by decide +kernel) (show (decide ((2 : Nat) = mA 216) && decide (216 < q_law)) = true by decide +kernel) rfl (show (0 : Nat) ≤ 8 by decide) (show (2 : Nat) ≤ mL 216 by decide +kernel) rfl (sh_ok hG (by decide +kernel)) m0
/-- SoulOfficeModel.most(I)I, from 224 -/
theorem b218_224 (hG : Shp G) {v1 v2 v3 v4 u0 : Int}
    (k0 : T (d + 1) 218 96 [some (aR 188), some (aI v1), some (aI v2), some (aI v3), some (aI v4), some (aI u0), none] [] (G, c) Q) :
    T (d + 1) 218 224 [some (aR 188), some (aI v1), some (aI v2), some (aI v3), some (aI v4), none, none] [aI u0] (G, c) Q := by
  refine e_L (L' := [some (aR 188), some (aI v1), some (aI v2), some (aI v3), some (aI v4), some (aI u0), none]) (st' := []) (show decode (mC 218) 224 = .ok (.istore 5, 2) by decide +kernel) rfl rfl ?_
  refine e_go (t := 96) (show decode (mC 218) 226 = .ok (.goto (-130), 3) by decide +kernel) (by decide) ?_
  exact k0
/-- SoulOfficeModel.gives(I)I, from 0 -/
theorem b219_0 (hG : Shp G) {v1 x1 : Int}
    (ex1 : (q_up c 188 0 0) 188 27 = x1)
    (m1 : TM d 164 [aI v1, aI 0, aI (x1 - 1)] (G, (q_up c 188 0 0)) (fun r h' => T (d + 1) 219 16 [some (aR 188), some (aI v1)] (r.toList ++ []) h' Q)) :
    T (d + 1) 219 0 [some (aR 188), some (aI v1)] [] (G, c) Q := by
  refine e_L (L' := [some (aR 188), some (aI v1)]) (st' := [aR 188]) (show decode (mC 219) 0 = .ok (.aload_n 0, 1) by decide +kernel) rfl (by show (if 188 = 0 then none else some (_, _)) = _; rw [if_neg (by decide)]) ?_
  refine e_P (st' := [aI 0, aR 188]) (show decode (mC 219) 1 = .ok (.iconst 0, 1) by decide +kernel) rfl rfl rfl ?_
  refine e_putI (show decode (mC 219) 2 = .ok (.putfield 1, 3) by decide +kernel) (show pl 12 1 = some (0, 12, 0, 0) by decide +kernel) (by decide) (sh_ok hG (by decide +kernel)) ?_
  refine e_L (L' := [some (aR 188), some (aI v1)]) (st' := [aI v1]) (show decode (mC 219) 5 = .ok (.iload_n 1, 1) by decide +kernel) rfl rfl ?_
  refine e_P (st' := [aI 0, aI v1]) (show decode (mC 219) 6 = .ok (.iconst 0, 1) by decide +kernel) rfl rfl rfl ?_
  refine e_L (L' := [some (aR 188), some (aI v1)]) (st' := [aR 188, aI 0, aI v1]) (show decode (mC 219) 7 = .ok (.aload_n 0, 1) by decide +kernel) rfl (by show (if 188 = 0 then none else some (_, _)) = _; rw [if_neg (by decide)]) ?_
  refine e_getIx (show decode (mC 219) 8 = .ok (.getfield 65, 3) by decide +kernel) (show pl 12 65 = some (0, 12, 27, 0) by decide +kernel) (by decide) (sh_ok hG (by decide +kernel)) ex1 ?_
  refine e_P (st' := [aI 1, aI x1, aI 0, aI v1]) (show decode (mC 219) 11 = .ok (.iconst 1, 1) by decide +kernel) rfl rfl rfl ?_
  refine e_P (st' := [aI (x1 - 1), aI 0, aI v1]) (show decode (mC 219) 12 = .ok (.isub, 1) by decide +kernel) rfl rfl rfl ?_
  exact e_S (as := [aI v1, aI 0, aI (x1 - 1)]) (rest := []) (show decode (mC 219) 13 = .ok (.invokestatic 184, 3) by decide +kernel) (by decide +kernel) (show (decide ((3 : Nat) = mA 164) && decide (164 < q_law)) = true by decide +kernel) rfl (show (0 : Nat) ≤ 8 by decide) (show (3 : Nat) ≤ mL 164 by decide +kernel) m1
/-- SoulOfficeModel.gives(I)I, from 16 -/
theorem b219_16 (hG : Shp G) {v1 u0 x1 : Int}
    (s0 : -2147483648 ≤ u0 ∧ u0 < 2147483648)
    (z1 : (u0 = 0) → Q (.inl (some (aI (-1)))) (G, c))
    (s2 : (¬ u0 = 0) → 0 ≤ v1)
    (s3 : (¬ u0 = 0) → v1 < 8)
    (ex1 : c 199 v1 = x1)
    (z5 : (¬ u0 = 0) → Q (.inl (some (aI x1))) (G, c)) :
    T (d + 1) 219 16 [some (aR 188), some (aI v1)] [aI u0] (G, c) Q := by
  refine e_eq1 (t := 28) (show decode (mC 219) 16 = .ok (.ifCond .eq 12, 3) by decide +kernel) (by decide) s0 (fun p1 => ?_) (fun p1 => ?_)
  · refine e_P (st' := [aI (-1)]) (show decode (mC 219) 28 = .ok (.iconst (-1), 1) by decide +kernel) rfl rfl rfl ?_
    exact e_iret (show decode (mC 219) 29 = .ok (.ireturn, 1) by decide +kernel) rfl (z1 p1)
  · refine e_L (L' := [some (aR 188), some (aI v1)]) (st' := [aR 188]) (show decode (mC 219) 19 = .ok (.aload_n 0, 1) by decide +kernel) rfl (by show (if 188 = 0 then none else some (_, _)) = _; rw [if_neg (by decide)]) ?_
    refine e_getR (w := 199) (show decode (mC 219) 20 = .ok (.getfield 62, 3) by decide +kernel) (show pl 12 62 = some (0, 12, 26, 0) by decide +kernel) (by decide) (sh_ok hG (by decide +kernel)) (sh_rf hG (by decide +kernel)) ?_
    refine e_L (L' := [some (aR 188), some (aI v1)]) (st' := [aI v1, aR 199]) (show decode (mC 219) 23 = .ok (.iload_n 1, 1) by decide +kernel) rfl rfl ?_
    refine e_ialdx (n := 8) (show decode (mC 219) 24 = .ok (.iaload, 1) by decide +kernel) (sh_ok hG (by decide +kernel)) (sh_ln hG (by decide +kernel)) (by decide) (s2 p1) (s3 p1) ex1 ?_
    refine e_go (t := 29) (show decode (mC 219) 25 = .ok (.goto 4, 3) by decide +kernel) (by decide) ?_
    exact e_iret (show decode (mC 219) 29 = .ok (.ireturn, 1) by decide +kernel) rfl (z5 p1)
/-- SoulOfficeModel.isHopeless(II)Z, from 0 -/
theorem b220_0 (hG : Shp G) {v1 v2 x1 : Int}
    (s0 : 0 ≤ ((205 + (8 * v1)) + v2))
    (s1 : ((205 + (8 * v1)) + v2) < 514)
    (ex1 : c 190 ((205 + (8 * v1)) + v2) = x1)
    (s3 : -2147483648 ≤ x1 ∧ x1 < 2147483648)
    (k4 : (¬ x1 = 0) → T (d + 1) 220 22 [some (aR 188), some (aI v1), some (aI v2), some (aI 0), none] [] (G, c) Q)
    (z5 : (x1 = 0) → Q (.inl (some (aI 0))) (G, c)) :
    T (d + 1) 220 0 [some (aR 188), some (aI v1), some (aI v2), none, none] [] (G, c) Q := by
  refine e_L (L' := [some (aR 188), some (aI v1), some (aI v2), none, none]) (st' := [aR 188]) (show decode (mC 220) 0 = .ok (.aload_n 0, 1) by decide +kernel) rfl (by show (if 188 = 0 then none else some (_, _)) = _; rw [if_neg (by decide)]) ?_
  refine e_getR (w := 190) (show decode (mC 220) 1 = .ok (.getfield 33, 3) by decide +kernel) (show pl 12 33 = some (0, 12, 6, 0) by decide +kernel) (by decide) (sh_ok hG (by decide +kernel)) (sh_rf hG (by decide +kernel)) ?_
  refine e_P (st' := [aI 205, aR 190]) (show decode (mC 220) 4 = .ok (.sipush 205, 3) by decide +kernel) rfl rfl rfl ?_
  refine e_P (st' := [aI 8, aI 205, aR 190]) (show decode (mC 220) 7 = .ok (.bipush 8, 2) by decide +kernel) rfl rfl rfl ?_
  refine e_L (L' := [some (aR 188), some (aI v1), some (aI v2), none, none]) (st' := [aI v1, aI 8, aI 205, aR 190]) (show decode (mC 220) 9 = .ok (.iload_n 1, 1) by decide +kernel) rfl rfl ?_
  refine e_P (st' := [aI (8 * v1), aI 205, aR 190]) (show decode (mC 220) 10 = .ok (.imul, 1) by decide +kernel) rfl rfl rfl ?_
  refine e_P (st' := [aI (205 + (8 * v1)), aR 190]) (show decode (mC 220) 11 = .ok (.iadd, 1) by decide +kernel) rfl rfl rfl ?_
  refine e_L (L' := [some (aR 188), some (aI v1), some (aI v2), none, none]) (st' := [aI v2, aI (205 + (8 * v1)), aR 190]) (show decode (mC 220) 12 = .ok (.iload_n 2, 1) by decide +kernel) rfl rfl ?_
  refine e_P (st' := [aI ((205 + (8 * v1)) + v2), aR 190]) (show decode (mC 220) 13 = .ok (.iadd, 1) by decide +kernel) rfl rfl rfl ?_
  refine e_ialdx (n := 514) (show decode (mC 220) 14 = .ok (.iaload, 1) by decide +kernel) (sh_ok hG (by decide +kernel)) (sh_ln hG (by decide +kernel)) (by decide) s0 s1 ex1 ?_
  refine e_ne1 (t := 20) (show decode (mC 220) 15 = .ok (.ifCond .ne 5, 3) by decide +kernel) (by decide) s3 (fun p1 => ?_) (fun p1 => ?_)
  · refine e_P (st' := [aI 0]) (show decode (mC 220) 20 = .ok (.iconst 0, 1) by decide +kernel) rfl rfl rfl ?_
    refine e_L (L' := [some (aR 188), some (aI v1), some (aI v2), some (aI 0), none]) (st' := []) (show decode (mC 220) 21 = .ok (.istore_n 3, 1) by decide +kernel) rfl rfl ?_
    exact (k4 p1)
  · refine e_P (st' := [aI 0]) (show decode (mC 220) 18 = .ok (.iconst 0, 1) by decide +kernel) rfl rfl rfl ?_
    exact e_zret (show decode (mC 220) 19 = .ok (.ireturn, 1) by decide +kernel) rfl (by decide) (z5 p1)
/-- SoulOfficeModel.isHopeless(II)Z, from 22 -/
theorem b220_22 (hG : Shp G) {v1 v2 v3 x1 : Int}
    (ex1 : c 190 0 = x1)
    (s1 : -2147483648 ≤ v3 ∧ v3 < 2147483648)
    (s2 : -2147483648 ≤ x1 ∧ x1 < 2147483648)
    (z3 : (x1 ≤ v3) → Q (.inl (some (aI 1))) (G, c))
    (k4 : (v3 < x1) → T (d + 1) 220 35 [some (aR 188), some (aI v1), some (aI v2), some (aI v3), some (aI 0)] [] (G, c) Q) :
    T (d + 1) 220 22 [some (aR 188), some (aI v1), some (aI v2), some (aI v3), none] [] (G, c) Q := by
  refine e_L (L' := [some (aR 188), some (aI v1), some (aI v2), some (aI v3), none]) (st' := [aI v3]) (show decode (mC 220) 22 = .ok (.iload_n 3, 1) by decide +kernel) rfl rfl ?_
  refine e_L (L' := [some (aR 188), some (aI v1), some (aI v2), some (aI v3), none]) (st' := [aR 188, aI v3]) (show decode (mC 220) 23 = .ok (.aload_n 0, 1) by decide +kernel) rfl (by show (if 188 = 0 then none else some (_, _)) = _; rw [if_neg (by decide)]) ?_
  refine e_getR (w := 190) (show decode (mC 220) 24 = .ok (.getfield 33, 3) by decide +kernel) (show pl 12 33 = some (0, 12, 6, 0) by decide +kernel) (by decide) (sh_ok hG (by decide +kernel)) (sh_rf hG (by decide +kernel)) ?_
  refine e_P (st' := [aI 0, aR 190, aI v3]) (show decode (mC 220) 27 = .ok (.iconst 0, 1) by decide +kernel) rfl rfl rfl ?_
  refine e_ialdx (n := 514) (show decode (mC 220) 28 = .ok (.iaload, 1) by decide +kernel) (sh_ok hG (by decide +kernel)) (sh_ln hG (by decide +kernel)) (by decide) (by decide) (by decide) ex1 ?_
  refine e_ge2 (t := 111) (show decode (mC 220) 29 = .ok (.if_icmp .ge 82, 3) by decide +kernel) (by decide) s1 s2 (fun p1 => ?_) (fun p1 => ?_)
  · refine e_P (st' := [aI 1]) (show decode (mC 220) 111 = .ok (.iconst 1, 1) by decide +kernel) rfl rfl rfl ?_
    exact e_zret (show decode (mC 220) 112 = .ok (.ireturn, 1) by decide +kernel) rfl (by decide) (z3 p1)
  · refine e_P (st' := [aI 0]) (show decode (mC 220) 32 = .ok (.iconst 0, 1) by decide +kernel) rfl rfl rfl ?_
    refine e_L (L' := [some (aR 188), some (aI v1), some (aI v2), some (aI v3), some (aI 0)]) (st' := []) (show decode (mC 220) 33 = .ok (.istore 4, 2) by decide +kernel) rfl rfl ?_
    exact (k4 p1)
/-- SoulOfficeModel.isHopeless(II)Z, from 35 -/
theorem b220_35 (hG : Shp G) {v1 v2 v3 v4 x1 x2 : Int} (hQ : ∀ o o' h', q_eqo o o' → Q o h' → Q o' h')
    (ex1 : c 190 0 = x1)
    (s1 : -2147483648 ≤ v4 ∧ v4 < 2147483648)
    (s2 : -2147483648 ≤ x1 ∧ x1 < 2147483648)
    (k3 : (x1 ≤ v4) → T (d + 1) 220 22 [some (aR 188), some (aI v1), some (aI v2), some (aI (v3 + 1)), none] [] (G, c) Q)
    (s4 : (v4 < x1) → 0 ≤ (51 + v1))
    (s5 : (v4 < x1) → (51 + v1) < 514)
    (ex2 : c 190 (51 + v1) = x2)
    (m7 : (v4 < x1) → TM d 165 [aI x2, aI v3] (G, c) (fun r h' => T (d + 1) 220 59 [some (aR 188), some (aI v1), some (aI v2), some (aI v3), some (aI v4)] (r.toList ++ []) h' Q)) :
    T (d + 1) 220 35 [some (aR 188), some (aI v1), some (aI v2), some (aI v3), some (aI v4)] [] (G, c) Q := by
  refine e_L (L' := [some (aR 188), some (aI v1), some (aI v2), some (aI v3), some (aI v4)]) (st' := [aI v4]) (show decode (mC 220) 35 = .ok (.iload 4, 2) by decide +kernel) rfl rfl ?_
  refine e_L (L' := [some (aR 188), some (aI v1), some (aI v2), some (aI v3), some (aI v4)]) (st' := [aR 188, aI v4]) (show decode (mC 220) 37 = .ok (.aload_n 0, 1) by decide +kernel) rfl (by show (if 188 = 0 then none else some (_, _)) = _; rw [if_neg (by decide)]) ?_
  refine e_getR (w := 190) (show decode (mC 220) 38 = .ok (.getfield 33, 3) by decide +kernel) (show pl 12 33 = some (0, 12, 6, 0) by decide +kernel) (by decide) (sh_ok hG (by decide +kernel)) (sh_rf hG (by decide +kernel)) ?_
  refine e_P (st' := [aI 0, aR 190, aI v4]) (show decode (mC 220) 41 = .ok (.iconst 0, 1) by decide +kernel) rfl rfl rfl ?_
  refine e_ialdx (n := 514) (show decode (mC 220) 42 = .ok (.iaload, 1) by decide +kernel) (sh_ok hG (by decide +kernel)) (sh_ln hG (by decide +kernel)) (by decide) (by decide) (by decide) ex1 ?_
  refine e_ge2 (t := 105) (show decode (mC 220) 43 = .ok (.if_icmp .ge 62, 3) by decide +kernel) (by decide) s1 s2 (fun p1 => ?_) (fun p1 => ?_)
  · refine e_L (L' := [some (aR 188), some (aI v1), some (aI v2), some (aI (v3 + 1)), some (aI v4)]) (st' := []) (show decode (mC 220) 105 = .ok (.iinc 3 1, 3) by decide +kernel) rfl rfl ?_
    refine e_go (t := 22) (show decode (mC 220) 108 = .ok (.goto (-86), 3) by decide +kernel) (by decide) ?_
    exact T_le hQ (leS (leS (leS (leS (leN leE))))) (k3 p1)
  · refine e_L (L' := [some (aR 188), some (aI v1), some (aI v2), some (aI v3), some (aI v4)]) (st' := [aR 188]) (show decode (mC 220) 46 = .ok (.aload_n 0, 1) by decide +kernel) rfl (by show (if 188 = 0 then none else some (_, _)) = _; rw [if_neg (by decide)]) ?_
    refine e_getR (w := 190) (show decode (mC 220) 47 = .ok (.getfield 33, 3) by decide +kernel) (show pl 12 33 = some (0, 12, 6, 0) by decide +kernel) (by decide) (sh_ok hG (by decide +kernel)) (sh_rf hG (by decide +kernel)) ?_
    refine e_P (st' := [aI 51, aR 190]) (show decode (mC 220) 50 = .ok (.bipush 51, 2) by decide +kernel) rfl rfl rfl ?_
    refine e_L (L' := [some (aR 188), some (aI v1), some (aI v2), some (aI v3), some (aI v4)]) (st' := [aI v1, aI 51, aR 190]) (show decode (mC 220) 52 = .ok (.iload_n 1, 1) by decide +kernel) rfl rfl ?_
    refine e_P (st' := [aI (51 + v1), aR 190]) (show decode (mC 220) 53 = .ok (.iadd, 1) by decide +kernel) rfl rfl rfl ?_
    refine e_ialdx (n := 514) (show decode (mC 220) 54 = .ok (.iaload, 1) by decide +kernel) (sh_ok hG (by decide +kernel)) (sh_ln hG (by decide +kernel)) (by decide) (s4 p1) (s5 p1) ex2 ?_
    refine e_L (L' := [some (aR 188), some (aI v1), some (aI v2), some (aI v3), some (aI v4)]) (st' := [aI v3, aI x2]) (show decode (mC 220) 55 = .ok (.iload_n 3, 1) by decide +kernel) rfl rfl ?_
    exact e_S (as := [aI x2, aI v3]) (rest := []) (show decode (mC 220) 56 = .ok (.invokestatic 219, 3) by decide +kernel) (by decide +kernel) (show (decide ((2 : Nat) = mA 165) && decide (165 < q_law)) = true by decide +kernel) rfl (show (0 : Nat) ≤ 8 by decide) (show (2 : Nat) ≤ mL 165 by decide +kernel) (m7 p1)
/-- SoulOfficeModel.isHopeless(II)Z, from 59 -/
theorem b220_59 (hG : Shp G) {v1 v2 v3 v4 u0 x1 : Int}
    (s0 : -2147483648 ≤ u0 ∧ u0 < 2147483648)
    (k1 : (u0 = 0) → T (d + 1) 220 35 [some (aR 188), some (aI v1), some (aI v2), some (aI v3), some (aI (v4 + 1))] [] (G, c) Q)
    (s2 : (¬ u0 = 0) → 0 ≤ (51 + v2))
    (s3 : (¬ u0 = 0) → (51 + v2) < 514)
    (ex1 : c 190 (51 + v2) = x1)
    (m5 : (¬ u0 = 0) → TM d 165 [aI x1, aI v4] (G, c) (fun r h' => T (d + 1) 220 76 [some (aR 188), some (aI v1), some (aI v2), some (aI v3), some (aI v4)] (r.toList ++ []) h' Q)) :
    T (d + 1) 220 59 [some (aR 188), some (aI v1), some (aI v2), some (aI v3), some (aI v4)] [aI u0] (G, c) Q := by
  refine e_eq1 (t := 99) (show decode (mC 220) 59 = .ok (.ifCond .eq 40, 3) by decide +kernel) (by decide) s0 (fun p1 => ?_) (fun p1 => ?_)
  · refine e_L (L' := [some (aR 188), some (aI v1), some (aI v2), some (aI v3), some (aI (v4 + 1))]) (st' := []) (show decode (mC 220) 99 = .ok (.iinc 4 1, 3) by decide +kernel) rfl rfl ?_
    refine e_go (t := 35) (show decode (mC 220) 102 = .ok (.goto (-67), 3) by decide +kernel) (by decide) ?_
    exact (k1 p1)
  · refine e_L (L' := [some (aR 188), some (aI v1), some (aI v2), some (aI v3), some (aI v4)]) (st' := [aR 188]) (show decode (mC 220) 62 = .ok (.aload_n 0, 1) by decide +kernel) rfl (by show (if 188 = 0 then none else some (_, _)) = _; rw [if_neg (by decide)]) ?_
    refine e_getR (w := 190) (show decode (mC 220) 63 = .ok (.getfield 33, 3) by decide +kernel) (show pl 12 33 = some (0, 12, 6, 0) by decide +kernel) (by decide) (sh_ok hG (by decide +kernel)) (sh_rf hG (by decide +kernel)) ?_
    refine e_P (st' := [aI 51, aR 190]) (show decode (mC 220) 66 = .ok (.bipush 51, 2) by decide +kernel) rfl rfl rfl ?_
    refine e_L (L' := [some (aR 188), some (aI v1), some (aI v2), some (aI v3), some (aI v4)]) (st' := [aI v2, aI 51, aR 190]) (show decode (mC 220) 68 = .ok (.iload_n 2, 1) by decide +kernel) rfl rfl ?_
    refine e_P (st' := [aI (51 + v2), aR 190]) (show decode (mC 220) 69 = .ok (.iadd, 1) by decide +kernel) rfl rfl rfl ?_
    refine e_ialdx (n := 514) (show decode (mC 220) 70 = .ok (.iaload, 1) by decide +kernel) (sh_ok hG (by decide +kernel)) (sh_ln hG (by decide +kernel)) (by decide) (s2 p1) (s3 p1) ex1 ?_
    refine e_L (L' := [some (aR 188), some (aI v1), some (aI v2), some (aI v3), some (aI v4)]) (st' := [aI v4, aI x1]) (show decode (mC 220) 71 = .ok (.iload 4, 2) by decide +kernel) rfl rfl ?_
    exact e_S (as := [aI x1, aI v4]) (rest := []) (show decode (mC 220) 73 = .ok (.invokestatic 219, 3) by decide +kernel) (by decide +kernel) (show (decide ((2 : Nat) = mA 165) && decide (165 < q_law)) = true by decide +kernel) rfl (show (0 : Nat) ≤ 8 by decide) (show (2 : Nat) ≤ mL 165 by decide +kernel) (m5 p1)
/-- SoulOfficeModel.isHopeless(II)Z, from 76 -/
theorem b220_76 (hG : Shp G) {v1 v2 v3 v4 u0 x1 : Int}
    (s0 : -2147483648 ≤ u0 ∧ u0 < 2147483648)
    (k1 : (u0 = 0) → T (d + 1) 220 35 [some (aR 188), some (aI v1), some (aI v2), some (aI v3), some (aI (v4 + 1))] [] (G, c) Q)
    (s2 : (¬ u0 = 0) → 0 ≤ ((15 + (6 * v3)) + v4))
    (s3 : (¬ u0 = 0) → ((15 + (6 * v3)) + v4) < 514)
    (ex1 : c 190 ((15 + (6 * v3)) + v4) = x1)
    (s5 : (¬ u0 = 0) → -2147483648 ≤ x1 ∧ x1 < 2147483648)
    (k6 : (¬ u0 = 0) → (x1 ≤ 0) → T (d + 1) 220 35 [some (aR 188), some (aI v1), some (aI v2), some (aI v3), some (aI (v4 + 1))] [] (G, c) Q)
    (z7 : (¬ u0 = 0) → (0 < x1) → Q (.inl (some (aI 0))) (G, c)) :
    T (d + 1) 220 76 [some (aR 188), some (aI v1), some (aI v2), some (aI v3), some (aI v4)] [aI u0] (G, c) Q := by
  refine e_eq1 (t := 99) (show decode (mC 220) 76 = .ok (.ifCond .eq 23, 3) by decide +kernel) (by decide) s0 (fun p1 => ?_) (fun p1 => ?_)
  · refine e_L (L' := [some (aR 188), some (aI v1), some (aI v2), some (aI v3), some (aI (v4 + 1))]) (st' := []) (show decode (mC 220) 99 = .ok (.iinc 4 1, 3) by decide +kernel) rfl rfl ?_
    refine e_go (t := 35) (show decode (mC 220) 102 = .ok (.goto (-67), 3) by decide +kernel) (by decide) ?_
    exact (k1 p1)
  · refine e_L (L' := [some (aR 188), some (aI v1), some (aI v2), some (aI v3), some (aI v4)]) (st' := [aR 188]) (show decode (mC 220) 79 = .ok (.aload_n 0, 1) by decide +kernel) rfl (by show (if 188 = 0 then none else some (_, _)) = _; rw [if_neg (by decide)]) ?_
    refine e_getR (w := 190) (show decode (mC 220) 80 = .ok (.getfield 33, 3) by decide +kernel) (show pl 12 33 = some (0, 12, 6, 0) by decide +kernel) (by decide) (sh_ok hG (by decide +kernel)) (sh_rf hG (by decide +kernel)) ?_
    refine e_P (st' := [aI 15, aR 190]) (show decode (mC 220) 83 = .ok (.bipush 15, 2) by decide +kernel) rfl rfl rfl ?_
    refine e_P (st' := [aI 6, aI 15, aR 190]) (show decode (mC 220) 85 = .ok (.bipush 6, 2) by decide +kernel) rfl rfl rfl ?_
    refine e_L (L' := [some (aR 188), some (aI v1), some (aI v2), some (aI v3), some (aI v4)]) (st' := [aI v3, aI 6, aI 15, aR 190]) (show decode (mC 220) 87 = .ok (.iload_n 3, 1) by decide +kernel) rfl rfl ?_
    refine e_P (st' := [aI (6 * v3), aI 15, aR 190]) (show decode (mC 220) 88 = .ok (.imul, 1) by decide +kernel) rfl rfl rfl ?_
    refine e_P (st' := [aI (15 + (6 * v3)), aR 190]) (show decode (mC 220) 89 = .ok (.iadd, 1) by decide +kernel) rfl rfl rfl ?_
    refine e_L (L' := [some (aR 188), some (aI v1), some (aI v2), some (aI v3), some (aI v4)]) (st' := [aI v4, aI (15 + (6 * v3)), aR 190]) (show decode (mC 220) 90 = .ok (.iload 4, 2) by decide +kernel) rfl rfl ?_
    refine e_P (st' := [aI ((15 + (6 * v3)) + v4), aR 190]) (show decode (mC 220) 92 = .ok (.iadd, 1) by decide +kernel) rfl rfl rfl ?_
    refine e_ialdx (n := 514) (show decode (mC 220) 93 = .ok (.iaload, 1) by decide +kernel) (sh_ok hG (by decide +kernel)) (sh_ln hG (by decide +kernel)) (by decide) (s2 p1) (s3 p1) ex1 ?_
    refine e_le1 (t := 99) (show decode (mC 220) 94 = .ok (.ifCond .le 5, 3) by decide +kernel) (by decide) (s5 p1) (fun p2 => ?_) (fun p2 => ?_)
    · refine e_L (L' := [some (aR 188), some (aI v1), some (aI v2), some (aI v3), some (aI (v4 + 1))]) (st' := []) (show decode (mC 220) 99 = .ok (.iinc 4 1, 3) by decide +kernel) rfl rfl ?_
      refine e_go (t := 35) (show decode (mC 220) 102 = .ok (.goto (-67), 3) by decide +kernel) (by decide) ?_
      exact (k6 p1 p2)
    · refine e_P (st' := [aI 0]) (show decode (mC 220) 97 = .ok (.iconst 0, 1) by decide +kernel) rfl rfl rfl ?_
      exact e_zret (show decode (mC 220) 98 = .ok (.ireturn, 1) by decide +kernel) rfl (by decide) (z7 p1 p2)
/-- SoulOfficeModel.hopeless(I)I, from 0 -/
theorem b221_0 (hG : Shp G) {v1 : Int}
    (s0 : -2147483648 ≤ v1 ∧ v1 < 2147483648)
    (k1 : ((-1) ≤ v1) → T (d + 1) 221 16 [some (aR 188), some (aI v1), some (aI 0), some (aI 0), none] [] (G, (q_up c 188 0 0)) Q)
    (z2 : (v1 < (-1)) → Q (.inl (some (aI (-1)))) (G, (q_up c 188 0 0))) :
    T (d + 1) 221 0 [some (aR 188), some (aI v1), none, none, none] [] (G, c) Q := by
  refine e_L (L' := [some (aR 188), some (aI v1), none, none, none]) (st' := [aR 188]) (show decode (mC 221) 0 = .ok (.aload_n 0, 1) by decide +kernel) rfl (by show (if 188 = 0 then none else some (_, _)) = _; rw [if_neg (by decide)]) ?_
  refine e_P (st' := [aI 0, aR 188]) (show decode (mC 221) 1 = .ok (.iconst 0, 1) by decide +kernel) rfl rfl rfl ?_
  refine e_putI (show decode (mC 221) 2 = .ok (.putfield 1, 3) by decide +kernel) (show pl 12 1 = some (0, 12, 0, 0) by decide +kernel) (by decide) (sh_ok hG (by decide +kernel)) ?_
  refine e_L (L' := [some (aR 188), some (aI v1), none, none, none]) (st' := [aI v1]) (show decode (mC 221) 5 = .ok (.iload_n 1, 1) by decide +kernel) rfl rfl ?_
  refine e_P (st' := [aI (-1), aI v1]) (show decode (mC 221) 6 = .ok (.iconst (-1), 1) by decide +kernel) rfl rfl rfl ?_
  refine e_ge2 (t := 12) (show decode (mC 221) 7 = .ok (.if_icmp .ge 5, 3) by decide +kernel) (by decide) s0 (by decide) (fun p1 => ?_) (fun p1 => ?_)
  · refine e_P (st' := [aI 0]) (show decode (mC 221) 12 = .ok (.iconst 0, 1) by decide +kernel) rfl rfl rfl ?_
    refine e_L (L' := [some (aR 188), some (aI v1), some (aI 0), none, none]) (st' := []) (show decode (mC 221) 13 = .ok (.istore_n 2, 1) by decide +kernel) rfl rfl ?_
    refine e_P (st' := [aI 0]) (show decode (mC 221) 14 = .ok (.iconst 0, 1) by decide +kernel) rfl rfl rfl ?_
    refine e_L (L' := [some (aR 188), some (aI v1), some (aI 0), some (aI 0), none]) (st' := []) (show decode (mC 221) 15 = .ok (.istore_n 3, 1) by decide +kernel) rfl rfl ?_
    exact (k1 p1)
  · refine e_P (st' := [aI (-1)]) (show decode (mC 221) 10 = .ok (.iconst (-1), 1) by decide +kernel) rfl rfl rfl ?_
    exact e_iret (show decode (mC 221) 11 = .ok (.ireturn, 1) by decide +kernel) rfl (z2 p1)
/-- SoulOfficeModel.hopeless(I)I, from 16 -/
theorem b221_16 (hG : Shp G) {v1 v2 v3 x1 : Int}
    (ex1 : c 190 1 = x1)
    (s1 : -2147483648 ≤ v3 ∧ v3 < 2147483648)
    (s2 : -2147483648 ≤ x1 ∧ x1 < 2147483648)
    (s3 : (x1 ≤ v3) → -2147483648 ≤ v1 ∧ v1 < 2147483648)
    (z4 : (x1 ≤ v3) → (¬ v1 = (-1)) → Q (.inl (some (aI (-1)))) (G, c))
    (z5 : (x1 ≤ v3) → (v1 = (-1)) → Q (.inl (some (aI v2))) (G, c))
    (k6 : (v3 < x1) → T (d + 1) 221 29 [some (aR 188), some (aI v1), some (aI v2), some (aI v3), some (aI 0)] [] (G, c) Q) :
    T (d + 1) 221 16 [some (aR 188), some (aI v1), some (aI v2), some (aI v3), none] [] (G, c) Q := by
  refine e_L (L' := [some (aR 188), some (aI v1), some (aI v2), some (aI v3), none]) (st' := [aI v3]) (show decode (mC 221) 16 = .ok (.iload_n 3, 1) by decide +kernel) rfl rfl ?_
  refine e_L (L' := [some (aR 188), some (aI v1), some (aI v2), some (aI v3), none]) (st' := [aR 188, aI v3]) (show decode (mC 221) 17 = .ok (.aload_n 0, 1) by decide +kernel) rfl (by show (if 188 = 0 then none else some (_, _)) = _; rw [if_neg (by decide)]) ?_
  refine e_getR (w := 190) (show decode (mC 221) 18 = .ok (.getfield 33, 3) by decide +kernel) (show pl 12 33 = some (0, 12, 6, 0) by decide +kernel) (by decide) (sh_ok hG (by decide +kernel)) (sh_rf hG (by decide +kernel)) ?_
  refine e_P (st' := [aI 1, aR 190, aI v3]) (show decode (mC 221) 21 = .ok (.iconst 1, 1) by decide +kernel) rfl rfl rfl ?_
  refine e_ialdx (n := 514) (show decode (mC 221) 22 = .ok (.iaload, 1) by decide +kernel) (sh_ok hG (by decide +kernel)) (sh_ln hG (by decide +kernel)) (by decide) (by decide) (by decide) ex1 ?_
  refine e_ge2 (t := 81) (show decode (mC 221) 23 = .ok (.if_icmp .ge 58, 3) by decide +kernel) (by decide) s1 s2 (fun p1 => ?_) (fun p1 => ?_)
  · refine e_L (L' := [some (aR 188), some (aI v1), some (aI v2), some (aI v3), none]) (st' := [aI v1]) (show decode (mC 221) 81 = .ok (.iload_n 1, 1) by decide +kernel) rfl rfl ?_
    refine e_P (st' := [aI (-1), aI v1]) (show decode (mC 221) 82 = .ok (.iconst (-1), 1) by decide +kernel) rfl rfl rfl ?_
    refine e_ne2 (t := 90) (show decode (mC 221) 83 = .ok (.if_icmp .ne 7, 3) by decide +kernel) (by decide) (s3 p1) (by decide) (fun p2 => ?_) (fun p2 => ?_)
    · refine e_P (st' := [aI (-1)]) (show decode (mC 221) 90 = .ok (.iconst (-1), 1) by decide +kernel) rfl rfl rfl ?_
      exact e_iret (show decode (mC 221) 91 = .ok (.ireturn, 1) by decide +kernel) rfl (z4 p1 p2)
    · refine e_L (L' := [some (aR 188), some (aI v1), some (aI v2), some (aI v3), none]) (st' := [aI v2]) (show decode (mC 221) 86 = .ok (.iload_n 2, 1) by decide +kernel) rfl rfl ?_
      refine e_go (t := 91) (show decode (mC 221) 87 = .ok (.goto 4, 3) by decide +kernel) (by decide) ?_
      exact e_iret (show decode (mC 221) 91 = .ok (.ireturn, 1) by decide +kernel) rfl (z5 p1 p2)
  · refine e_P (st' := [aI 0]) (show decode (mC 221) 26 = .ok (.iconst 0, 1) by decide +kernel) rfl rfl rfl ?_
    refine e_L (L' := [some (aR 188), some (aI v1), some (aI v2), some (aI v3), some (aI 0)]) (st' := []) (show decode (mC 221) 27 = .ok (.istore 4, 2) by decide +kernel) rfl rfl ?_
    exact (k6 p1)
/-- SoulOfficeModel.hopeless(I)I, from 29 -/
theorem b221_29 (hG : Shp G) {v1 v2 v3 v4 x1 : Int} (hQ : ∀ o o' h', q_eqo o o' → Q o h' → Q o' h')
    (ex1 : c 190 1 = x1)
    (s1 : -2147483648 ≤ v4 ∧ v4 < 2147483648)
    (s2 : -2147483648 ≤ x1 ∧ x1 < 2147483648)
    (k3 : (x1 ≤ v4) → T (d + 1) 221 16 [some (aR 188), some (aI v1), some (aI v2), some (aI (v3 + 1)), none] [] (G, c) Q)
    (m4 : (v4 < x1) → TM d 220 [aR 188, aI v3, aI v4] (G, c) (fun r h' => T (d + 1) 221 47 [some (aR 188), some (aI v1), some (aI v2), some (aI v3), some (aI v4)] (r.toList ++ []) h' Q)) :
    T (d + 1) 221 29 [some (aR 188), some (aI v1), some (aI v2), some (aI v3), some (aI v4)] [] (G, c) Q := by
  refine e_L (L' := [some (aR 188), some (aI v1), some (aI v2), some (aI v3), some (aI v4)]) (st' := [aI v4]) (show decode (mC 221) 29 = .ok (.iload 4, 2) by decide +kernel) rfl rfl ?_
  refine e_L (L' := [some (aR 188), some (aI v1), some (aI v2), some (aI v3), some (aI v4)]) (st' := [aR 188, aI v4]) (show decode (mC 221) 31 = .ok (.aload_n 0, 1) by decide +kernel) rfl (by show (if 188 = 0 then none else some (_, _)) = _; rw [if_neg (by decide)]) ?_
  refine e_getR (w := 190) (show decode (mC 221) 32 = .ok (.getfield 33, 3) by decide +kernel) (show pl 12 33 = some (0, 12, 6, 0) by decide +kernel) (by decide) (sh_ok hG (by decide +kernel)) (sh_rf hG (by decide +kernel)) ?_
  refine e_P (st' := [aI 1, aR 190, aI v4]) (show decode (mC 221) 35 = .ok (.iconst 1, 1) by decide +kernel) rfl rfl rfl ?_
  refine e_ialdx (n := 514) (show decode (mC 221) 36 = .ok (.iaload, 1) by decide +kernel) (sh_ok hG (by decide +kernel)) (sh_ln hG (by decide +kernel)) (by decide) (by decide) (by decide) ex1 ?_
  refine e_ge2 (t := 75) (show decode (mC 221) 37 = .ok (.if_icmp .ge 38, 3) by decide +kernel) (by decide) s1 s2 (fun p1 => ?_) (fun p1 => ?_)
  · refine e_L (L' := [some (aR 188), some (aI v1), some (aI v2), some (aI (v3 + 1)), some (aI v4)]) (st' := []) (show decode (mC 221) 75 = .ok (.iinc 3 1, 3) by decide +kernel) rfl rfl ?_
    refine e_go (t := 16) (show decode (mC 221) 78 = .ok (.goto (-62), 3) by decide +kernel) (by decide) ?_
    exact T_le hQ (leS (leS (leS (leS (leN leE))))) (k3 p1)
  · refine e_L (L' := [some (aR 188), some (aI v1), some (aI v2), some (aI v3), some (aI v4)]) (st' := [aR 188]) (show decode (mC 221) 40 = .ok (.aload_n 0, 1) by decide +kernel) rfl (by show (if 188 = 0 then none else some (_, _)) = _; rw [if_neg (by decide)]) ?_
    refine e_L (L' := [some (aR 188), some (aI v1), some (aI v2), some (aI v3), some (aI v4)]) (st' := [aI v3, aR 188]) (show decode (mC 221) 41 = .ok (.iload_n 3, 1) by decide +kernel) rfl rfl ?_
    refine e_L (L' := [some (aR 188), some (aI v1), some (aI v2), some (aI v3), some (aI v4)]) (st' := [aI v4, aI v3, aR 188]) (show decode (mC 221) 42 = .ok (.iload 4, 2) by decide +kernel) rfl rfl ?_
    exact e_V (as := [aR 188, aI v3, aI v4]) (rest := []) (show decode (mC 221) 44 = .ok (.invokevirtual 311, 3) by decide +kernel) (by decide +kernel) (show (decide ((3 : Nat) = mA 220) && decide (220 < q_law)) = true by decide +kernel) rfl (show (0 : Nat) ≤ 8 by decide) (show (3 : Nat) ≤ mL 220 by decide +kernel) rfl (sh_ok hG (by decide +kernel)) (m4 p1)
/-- SoulOfficeModel.hopeless(I)I, from 47 -/
theorem b221_47 (hG : Shp G) {v1 v2 v3 v4 u0 : Int}
    (s0 : -2147483648 ≤ u0 ∧ u0 < 2147483648)
    (s1 : (¬ u0 = 0) → -2147483648 ≤ v2 ∧ v2 < 2147483648)
    (s2 : (¬ u0 = 0) → -2147483648 ≤ v1 ∧ v1 < 2147483648)
    (k3 : (¬ u0 = 0) → (¬ v2 = v1) → T (d + 1) 221 29 [some (aR 188), some (aI v1), some (aI (v2 + 1)), some (aI v3), some (aI (v4 + 1))] [] (G, c) Q)
    (z4 : (¬ u0 = 0) → (v2 = v1) → Q (.inl (some (aI ((10 * v3) + v4)))) (G, c))
    (k5 : (u0 = 0) → T (d + 1) 221 29 [some (aR 188), some (aI v1), some (aI v2), some (aI v3), some (aI (v4 + 1))] [] (G, c) Q) :
    T (d + 1) 221 47 [some (aR 188), some (aI v1), some (aI v2), some (aI v3), some (aI v4)] [aI u0] (G, c) Q := by
  refine e_ne1 (t := 53) (show decode (mC 221) 47 = .ok (.ifCond .ne 6, 3) by decide +kernel) (by decide) s0 (fun p1 => ?_) (fun p1 => ?_)
  · refine e_L (L' := [some (aR 188), some (aI v1), some (aI v2), some (aI v3), some (aI v4)]) (st' := [aI v2]) (show decode (mC 221) 53 = .ok (.iload_n 2, 1) by decide +kernel) rfl rfl ?_
    refine e_L (L' := [some (aR 188), some (aI v1), some (aI v2), some (aI v3), some (aI v4)]) (st' := [aI v1, aI v2]) (show decode (mC 221) 54 = .ok (.iload_n 1, 1) by decide +kernel) rfl rfl ?_
    refine e_ne2 (t := 66) (show decode (mC 221) 55 = .ok (.if_icmp .ne 11, 3) by decide +kernel) (by decide) (s1 p1) (s2 p1) (fun p2 => ?_) (fun p2 => ?_)
    · refine e_L (L' := [some (aR 188), some (aI v1), some (aI (v2 + 1)), some (aI v3), some (aI v4)]) (st' := []) (show decode (mC 221) 66 = .ok (.iinc 2 1, 3) by decide +kernel) rfl rfl ?_
      refine e_L (L' := [some (aR 188), some (aI v1), some (aI (v2 + 1)), some (aI v3), some (aI (v4 + 1))]) (st' := []) (show decode (mC 221) 69 = .ok (.iinc 4 1, 3) by decide +kernel) rfl rfl ?_
      refine e_go (t := 29) (show decode (mC 221) 72 = .ok (.goto (-43), 3) by decide +kernel) (by decide) ?_
      exact (k3 p1 p2)
    · refine e_P (st' := [aI 10]) (show decode (mC 221) 58 = .ok (.bipush 10, 2) by decide +kernel) rfl rfl rfl ?_
      refine e_L (L' := [some (aR 188), some (aI v1), some (aI v2), some (aI v3), some (aI v4)]) (st' := [aI v3, aI 10]) (show decode (mC 221) 60 = .ok (.iload_n 3, 1) by decide +kernel) rfl rfl ?_
      refine e_P (st' := [aI (10 * v3)]) (show decode (mC 221) 61 = .ok (.imul, 1) by decide +kernel) rfl rfl rfl ?_
      refine e_L (L' := [some (aR 188), some (aI v1), some (aI v2), some (aI v3), some (aI v4)]) (st' := [aI v4, aI (10 * v3)]) (show decode (mC 221) 62 = .ok (.iload 4, 2) by decide +kernel) rfl rfl ?_
      refine e_P (st' := [aI ((10 * v3) + v4)]) (show decode (mC 221) 64 = .ok (.iadd, 1) by decide +kernel) rfl rfl rfl ?_
      exact e_iret (show decode (mC 221) 65 = .ok (.ireturn, 1) by decide +kernel) rfl (z4 p1 p2)
  · refine e_go (t := 69) (show decode (mC 221) 50 = .ok (.goto 19, 3) by decide +kernel) (by decide) ?_
    refine e_L (L' := [some (aR 188), some (aI v1), some (aI v2), some (aI v3), some (aI (v4 + 1))]) (st' := []) (show decode (mC 221) 69 = .ok (.iinc 4 1, 3) by decide +kernel) rfl rfl ?_
    refine e_go (t := 29) (show decode (mC 221) 72 = .ok (.goto (-43), 3) by decide +kernel) (by decide) ?_
    exact (k5 p1)
/-- SoulOfficeModel.netOf(I)I, from 0 -/
theorem b222_0 (hG : Shp G) {v1 : Int}
    (m0 : TM d 193 [aR 188, aI v1] (G, c) (fun r h' => T (d + 1) 222 5 [some (aR 188), some (aI v1)] (r.toList ++ []) h' Q)) :
    T (d + 1) 222 0 [some (aR 188), some (aI v1)] [] (G, c) Q := by
  refine e_L (L' := [some (aR 188), some (aI v1)]) (st' := [aR 188]) (show decode (mC 222) 0 = .ok (.aload_n 0, 1) by decide +kernel) rfl (by show (if 188 = 0 then none else some (_, _)) = _; rw [if_neg (by decide)]) ?_
  refine e_L (L' := [some (aR 188), some (aI v1)]) (st' := [aI v1, aR 188]) (show decode (mC 222) 1 = .ok (.iload_n 1, 1) by decide +kernel) rfl rfl ?_
  exact e_V (as := [aR 188, aI v1]) (rest := []) (show decode (mC 222) 2 = .ok (.invokevirtual 258, 3) by decide +kernel) (by decide +kernel) (show (decide ((2 : Nat) = mA 193) && decide (193 < q_law)) = true by decide +kernel) rfl (show (0 : Nat) ≤ 8 by decide) (show (2 : Nat) ≤ mL 193 by decide +kernel) rfl (sh_ok hG (by decide +kernel)) m0
/-- SoulOfficeModel.netOf(I)I, from 5 -/
theorem b222_5 (hG : Shp G) {v1 u0 : Int} (hQ : ∀ o o' h', q_eqo o o' → Q o h' → Q o' h')
    (m0 : TM d 192 [aR 188, aI v1] (G, c) (fun r h' => T (d + 1) 222 10 [none, none] (r.toList ++ [aI u0]) h' Q)) :
    T (d + 1) 222 5 [some (aR 188), some (aI v1)] [aI u0] (G, c) Q := by
  refine e_L (L' := [some (aR 188), some (aI v1)]) (st' := [aR 188, aI u0]) (show decode (mC 222) 5 = .ok (.aload_n 0, 1) by decide +kernel) rfl (by show (if 188 = 0 then none else some (_, _)) = _; rw [if_neg (by decide)]) ?_
  refine e_L (L' := [some (aR 188), some (aI v1)]) (st' := [aI v1, aR 188, aI u0]) (show decode (mC 222) 6 = .ok (.iload_n 1, 1) by decide +kernel) rfl rfl ?_
  exact e_V (as := [aR 188, aI v1]) (rest := [aI u0]) (show decode (mC 222) 7 = .ok (.invokevirtual 255, 3) by decide +kernel) (by decide +kernel) (show (decide ((2 : Nat) = mA 192) && decide (192 < q_law)) = true by decide +kernel) rfl (show (1 : Nat) ≤ 8 by decide) (show (2 : Nat) ≤ mL 192 by decide +kernel) rfl (sh_ok hG (by decide +kernel)) (tm_le hQ (leN (leN leE)) m0)
/-- SoulOfficeModel.netOf(I)I, from 10 -/
theorem b222_10 (hG : Shp G) {u0 u1 : Int}
    (z0 : Q (.inl (some (aI (u0 - u1)))) (G, c)) :
    T (d + 1) 222 10 [none, none] [aI u1, aI u0] (G, c) Q := by
  refine e_P (st' := [aI (u0 - u1)]) (show decode (mC 222) 10 = .ok (.isub, 1) by decide +kernel) rfl rfl rfl ?_
  exact e_iret (show decode (mC 222) 11 = .ok (.ireturn, 1) by decide +kernel) rfl z0
/-- SoulOfficeModel.net(I)I, from 0 -/
theorem b223_0 (hG : Shp G) {v1 : Int}
    (m0 : TM d 188 [aR 188, aI v1] (G, c) (fun r h' => T (d + 1) 223 6 [some (aR 188), some (aI v1)] (r.toList ++ [aR 188]) h' Q)) :
    T (d + 1) 223 0 [some (aR 188), some (aI v1)] [] (G, c) Q := by
  refine e_L (L' := [some (aR 188), some (aI v1)]) (st' := [aR 188]) (show decode (mC 223) 0 = .ok (.aload_n 0, 1) by decide +kernel) rfl (by show (if 188 = 0 then none else some (_, _)) = _; rw [if_neg (by decide)]) ?_
  refine e_L (L' := [some (aR 188), some (aI v1)]) (st' := [aR 188, aR 188]) (show decode (mC 223) 1 = .ok (.aload_n 0, 1) by decide +kernel) rfl (by show (if 188 = 0 then none else some (_, _)) = _; rw [if_neg (by decide)]) ?_
  refine e_L (L' := [some (aR 188), some (aI v1)]) (st' := [aI v1, aR 188, aR 188]) (show decode (mC 223) 2 = .ok (.iload_n 1, 1) by decide +kernel) rfl rfl ?_
  exact e_V (as := [aR 188, aI v1]) (rest := [aR 188]) (show decode (mC 223) 3 = .ok (.invokevirtual 248, 3) by decide +kernel) (by decide +kernel) (show (decide ((2 : Nat) = mA 188) && decide (188 < q_law)) = true by decide +kernel) rfl (show (1 : Nat) ≤ 8 by decide) (show (2 : Nat) ≤ mL 188 by decide +kernel) rfl (sh_ok hG (by decide +kernel)) m0
/-- SoulOfficeModel.net(I)I, from 6 -/
theorem b223_6 (hG : Shp G) {v1 u1 : Int}
    (s0 : -2147483648 ≤ u1 ∧ u1 < 2147483648)
    (m1 : (¬ u1 = 0) → TM d 159 [aR 188, aI 0] (G, c) (fun r h' => T (d + 1) 223 17 [some (aR 188), some (aI v1)] (r.toList ++ []) h' Q))
    (m2 : (u1 = 0) → TM d 159 [aR 188, aI 1] (G, c) (fun r h' => T (d + 1) 223 17 [some (aR 188), some (aI v1)] (r.toList ++ []) h' Q)) :
    T (d + 1) 223 6 [some (aR 188), some (aI v1)] [aI u1, aR 188] (G, c) Q := by
  refine e_ne1 (t := 13) (show decode (mC 223) 6 = .ok (.ifCond .ne 7, 3) by decide +kernel) (by decide) s0 (fun p1 => ?_) (fun p1 => ?_)
  · refine e_P (st' := [aI 0, aR 188]) (show decode (mC 223) 13 = .ok (.iconst 0, 1) by decide +kernel) rfl rfl rfl ?_
    exact e_V (as := [aR 188, aI 0]) (rest := []) (show decode (mC 223) 14 = .ok (.invokevirtual 251, 3) by decide +kernel) (by decide +kernel) (show (decide ((2 : Nat) = mA 159) && decide (159 < q_law)) = true by decide +kernel) rfl (show (0 : Nat) ≤ 8 by decide) (show (2 : Nat) ≤ mL 159 by decide +kernel) rfl (sh_ok hG (by decide +kernel)) (m1 p1)
  · refine e_P (st' := [aI 1, aR 188]) (show decode (mC 223) 9 = .ok (.iconst 1, 1) by decide +kernel) rfl rfl rfl ?_
    refine e_go (t := 14) (show decode (mC 223) 10 = .ok (.goto 4, 3) by decide +kernel) (by decide) ?_
    exact e_V (as := [aR 188, aI 1]) (rest := []) (show decode (mC 223) 14 = .ok (.invokevirtual 251, 3) by decide +kernel) (by decide +kernel) (show (decide ((2 : Nat) = mA 159) && decide (159 < q_law)) = true by decide +kernel) rfl (show (0 : Nat) ≤ 8 by decide) (show (2 : Nat) ≤ mL 159 by decide +kernel) rfl (sh_ok hG (by decide +kernel)) (m2 p1)
/-- SoulOfficeModel.net(I)I, from 17 -/
theorem b223_17 (hG : Shp G) {v1 u0 : Int} (hQ : ∀ o o' h', q_eqo o o' → Q o h' → Q o' h')
    (s0 : -2147483648 ≤ u0 ∧ u0 < 2147483648)
    (m1 : (u0 = 0) → TM d 222 [aR 188, aI v1] (G, c) (fun r h' => T (d + 1) 223 29 [none, none] (r.toList ++ []) h' Q))
    (k2 : (¬ u0 = 0) → T (d + 1) 223 29 [none, none] [aI 0] (G, c) Q) :
    T (d + 1) 223 17 [some (aR 188), some (aI v1)] [aI u0] (G, c) Q := by
  refine e_eq1 (t := 24) (show decode (mC 223) 17 = .ok (.ifCond .eq 7, 3) by decide +kernel) (by decide) s0 (fun p1 => ?_) (fun p1 => ?_)
  · refine e_L (L' := [some (aR 188), some (aI v1)]) (st' := [aR 188]) (show decode (mC 223) 24 = .ok (.aload_n 0, 1) by decide +kernel) rfl (by show (if 188 = 0 then none else some (_, _)) = _; rw [if_neg (by decide)]) ?_
    refine e_L (L' := [some (aR 188), some (aI v1)]) (st' := [aI v1, aR 188]) (show decode (mC 223) 25 = .ok (.iload_n 1, 1) by decide +kernel) rfl rfl ?_
    exact e_V (as := [aR 188, aI v1]) (rest := []) (show decode (mC 223) 26 = .ok (.invokevirtual 314, 3) by decide +kernel) (by decide +kernel) (show (decide ((2 : Nat) = mA 222) && decide (222 < q_law)) = true by decide +kernel) rfl (show (0 : Nat) ≤ 8 by decide) (show (2 : Nat) ≤ mL 222 by decide +kernel) rfl (sh_ok hG (by decide +kernel)) (tm_le hQ (leN (leN leE)) (m1 p1))
  · refine e_P (st' := [aI 0]) (show decode (mC 223) 20 = .ok (.iconst 0, 1) by decide +kernel) rfl rfl rfl ?_
    refine e_go (t := 29) (show decode (mC 223) 21 = .ok (.goto 8, 3) by decide +kernel) (by decide) ?_
    exact T_le hQ (leN (leN leE)) (k2 p1)
/-- SoulOfficeModel.net(I)I, from 29 -/
theorem b223_29 (hG : Shp G) {u0 : Int}
    (z0 : Q (.inl (some (aI u0))) (G, c)) :
    T (d + 1) 223 29 [none, none] [aI u0] (G, c) Q := by
  exact e_iret (show decode (mC 223) 29 = .ok (.ireturn, 1) by decide +kernel) rfl z0
/-- SoulOfficeModel.groupsAll(I)I, from 0 -/
theorem b224_0 (hG : Shp G) {v1 : Int}
    (k0 : T (d + 1) 224 2 [some (aR 188), some (aI v1), some (aI 1), none] [] (G, c) Q) :
    T (d + 1) 224 0 [some (aR 188), some (aI v1), none, none] [] (G, c) Q := by
  refine e_P (st' := [aI 1]) (show decode (mC 224) 0 = .ok (.iconst 1, 1) by decide +kernel) rfl rfl rfl ?_
  refine e_L (L' := [some (aR 188), some (aI v1), some (aI 1), none]) (st' := []) (show decode (mC 224) 1 = .ok (.istore_n 2, 1) by decide +kernel) rfl rfl ?_
  exact k0
/-- SoulOfficeModel.groupsAll(I)I, from 2 -/
theorem b224_2 (hG : Shp G) {v1 v2 x1 : Int}
    (s0 : -2147483648 ≤ v2 ∧ v2 < 2147483648)
    (s1 : (256 ≤ v2) → 0 ≤ v1)
    (s2 : (256 ≤ v2) → v1 < 256)
    (ex1 : c 200 v1 = x1)
    (z4 : (256 ≤ v2) → Q (.inl (some (aI x1))) (G, c))
    (s5 : (v2 < 256) → 0 ≤ v2)
    (s6 : (v2 < 256) → v2 < 256)
    (k7 : (v2 < 256) → T (d + 1) 224 18 [some (aR 188), some (aI v1), some (aI v2), some (aI 0)] [] (G, (q_up c 200 v2 0)) Q) :
    T (d + 1) 224 2 [some (aR 188), some (aI v1), some (aI v2), none] [] (G, c) Q := by
  refine e_L (L' := [some (aR 188), some (aI v1), some (aI v2), none]) (st' := [aI v2]) (show decode (mC 224) 2 = .ok (.iload_n 2, 1) by decide +kernel) rfl rfl ?_
  refine e_P (st' := [aI 256, aI v2]) (show decode (mC 224) 3 = .ok (.sipush 256, 3) by decide +kernel) rfl rfl rfl ?_
  refine e_ge2 (t := 142) (show decode (mC 224) 6 = .ok (.if_icmp .ge 136, 3) by decide +kernel) (by decide) s0 (by decide) (fun p1 => ?_) (fun p1 => ?_)
  · refine e_L (L' := [some (aR 188), some (aI v1), some (aI v2), none]) (st' := [aR 188]) (show decode (mC 224) 142 = .ok (.aload_n 0, 1) by decide +kernel) rfl (by show (if 188 = 0 then none else some (_, _)) = _; rw [if_neg (by decide)]) ?_
    refine e_getR (w := 200) (show decode (mC 224) 143 = .ok (.getfield 68, 3) by decide +kernel) (show pl 12 68 = some (0, 12, 28, 0) by decide +kernel) (by decide) (sh_ok hG (by decide +kernel)) (sh_rf hG (by decide +kernel)) ?_
    refine e_L (L' := [some (aR 188), some (aI v1), some (aI v2), none]) (st' := [aI v1, aR 200]) (show decode (mC 224) 146 = .ok (.iload_n 1, 1) by decide +kernel) rfl rfl ?_
    refine e_ialdx (n := 256) (show decode (mC 224) 147 = .ok (.iaload, 1) by decide +kernel) (sh_ok hG (by decide +kernel)) (sh_ln hG (by decide +kernel)) (by decide) (s1 p1) (s2 p1) ex1 ?_
    exact e_iret (show decode (mC 224) 148 = .ok (.ireturn, 1) by decide +kernel) rfl (z4 p1)
  · refine e_L (L' := [some (aR 188), some (aI v1), some (aI v2), none]) (st' := [aR 188]) (show decode (mC 224) 9 = .ok (.aload_n 0, 1) by decide +kernel) rfl (by show (if 188 = 0 then none else some (_, _)) = _; rw [if_neg (by decide)]) ?_
    refine e_getR (w := 200) (show decode (mC 224) 10 = .ok (.getfield 68, 3) by decide +kernel) (show pl 12 68 = some (0, 12, 28, 0) by decide +kernel) (by decide) (sh_ok hG (by decide +kernel)) (sh_rf hG (by decide +kernel)) ?_
    refine e_L (L' := [some (aR 188), some (aI v1), some (aI v2), none]) (st' := [aI v2, aR 200]) (show decode (mC 224) 13 = .ok (.iload_n 2, 1) by decide +kernel) rfl rfl ?_
    refine e_P (st' := [aI 0, aI v2, aR 200]) (show decode (mC 224) 14 = .ok (.iconst 0, 1) by decide +kernel) rfl rfl rfl ?_
    refine e_iast (n := 256) (show decode (mC 224) 15 = .ok (.iastore, 1) by decide +kernel) (sh_ok hG (by decide +kernel)) (sh_ln hG (by decide +kernel)) (by decide) (s5 p1) (s6 p1) ?_
    refine e_P (st' := [aI 0]) (show decode (mC 224) 16 = .ok (.iconst 0, 1) by decide +kernel) rfl rfl rfl ?_
    refine e_L (L' := [some (aR 188), some (aI v1), some (aI v2), some (aI 0)]) (st' := []) (show decode (mC 224) 17 = .ok (.istore_n 3, 1) by decide +kernel) rfl rfl ?_
    exact (k7 p1)
end QB28
