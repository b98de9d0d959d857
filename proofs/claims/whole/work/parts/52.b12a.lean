section QB22
variable {d : Nat} {G : GG} {c : CC} {Q : OO → HH → Prop}
/-- SoulOfficeModel.thrown()I, from 0 -/
theorem b158_0 (hG : Shp G) {x1 : Int}
    (ex1 : c 188 0 = x1)
    (z1 : Q (.inl (some (aI x1))) (G, c)) :
    T d 158 0 [some (aR 188)] [] (G, c) Q := by
  refine e_L (L' := [some (aR 188)]) (st' := [aR 188]) (show decode (mC 158) 0 = .ok (.aload_n 0, 1) by decide +kernel) rfl (by show (if 188 = 0 then none else some (_, _)) = _; rw [if_neg (by decide)]) ?_
  refine e_getIx (show decode (mC 158) 1 = .ok (.getfield 1, 3) by decide +kernel) (show pl 12 1 = some (0, 12, 0, 0) by decide +kernel) (by decide) (sh_ok hG (by decide +kernel)) ex1 ?_
  exact e_iret (show decode (mC 158) 4 = .ok (.ireturn, 1) by decide +kernel) rfl z1
/-- SoulOfficeModel.throwsIf(Z)Z, from 0 -/
theorem b159_0 (hG : Shp G) {v1 : Int}
    (s0 : -2147483648 ≤ v1 ∧ v1 < 2147483648)
    (s1 : (v1 = 0) → v1 = 0 ∨ v1 = 1)
    (z2 : (v1 = 0) → Q (.inl (some (aI v1))) (G, (q_up c 188 0 0)))
    (s3 : (¬ v1 = 0) → v1 = 0 ∨ v1 = 1)
    (z4 : (¬ v1 = 0) → Q (.inl (some (aI v1))) (G, (q_up c 188 0 1))) :
    T d 159 0 [some (aR 188), some (aI v1)] [] (G, c) Q := by
  refine e_L (L' := [some (aR 188), some (aI v1)]) (st' := [aR 188]) (show decode (mC 159) 0 = .ok (.aload_n 0, 1) by decide +kernel) rfl (by show (if 188 = 0 then none else some (_, _)) = _; rw [if_neg (by decide)]) ?_
  refine e_L (L' := [some (aR 188), some (aI v1)]) (st' := [aI v1, aR 188]) (show decode (mC 159) 1 = .ok (.iload_n 1, 1) by decide +kernel) rfl rfl ?_
  refine e_eq1 (t := 9) (show decode (mC 159) 2 = .ok (.ifCond .eq 7, 3) by decide +kernel) (by decide) s0 (fun p1 => ?_) (fun p1 => ?_)
  · refine e_P (st' := [aI 0, aR 188]) (show decode (mC 159) 9 = .ok (.iconst 0, 1) by decide +kernel) rfl rfl rfl ?_
    refine e_putI (show decode (mC 159) 10 = .ok (.putfield 1, 3) by decide +kernel) (show pl 12 1 = some (0, 12, 0, 0) by decide +kernel) (by decide) (sh_ok hG (by decide +kernel)) ?_
    refine e_L (L' := [some (aR 188), some (aI v1)]) (st' := [aI v1]) (show decode (mC 159) 13 = .ok (.iload_n 1, 1) by decide +kernel) rfl rfl ?_
    exact e_zret (show decode (mC 159) 14 = .ok (.ireturn, 1) by decide +kernel) rfl (s1 p1) (z2 p1)
  · refine e_P (st' := [aI 1, aR 188]) (show decode (mC 159) 5 = .ok (.iconst 1, 1) by decide +kernel) rfl rfl rfl ?_
    refine e_go (t := 10) (show decode (mC 159) 6 = .ok (.goto 4, 3) by decide +kernel) (by decide) ?_
    refine e_putI (show decode (mC 159) 10 = .ok (.putfield 1, 3) by decide +kernel) (show pl 12 1 = some (0, 12, 0, 0) by decide +kernel) (by decide) (sh_ok hG (by decide +kernel)) ?_
    refine e_L (L' := [some (aR 188), some (aI v1)]) (st' := [aI v1]) (show decode (mC 159) 13 = .ok (.iload_n 1, 1) by decide +kernel) rfl rfl ?_
    exact e_zret (show decode (mC 159) 14 = .ok (.ireturn, 1) by decide +kernel) rfl (s3 p1) (z4 p1)
/-- SoulOfficeModel.feed(IIIII)I, from 0 -/
theorem b160_0 (hG : Shp G) {v1 v2 v3 v4 v5 x1 : Int} (hQ : ∀ o o' h', q_eqo o o' → Q o h' → Q o' h')
    (ex1 : (q_up c 188 0 0) 188 2 = x1)
    (s1 : -2147483648 ≤ (x1 + 20) ∧ (x1 + 20) < 2147483648)
    (m2 : ((x1 + 20) ≤ 940) → TM d 161 [aR 188, aI v1] (G, (q_up c 188 0 0)) (fun r h' => T (d + 1) 160 25 [some (aR 188), none, some (aI v2), some (aI v3), some (aI v4), some (aI v5)] (r.toList ++ []) h' Q))
    (z3 : (940 < (x1 + 20)) → Q (.inl (some (aI (-1)))) (G, (q_up c 188 0 0))) :
    T (d + 1) 160 0 [some (aR 188), some (aI v1), some (aI v2), some (aI v3), some (aI v4), some (aI v5)] [] (G, c) Q := by
  refine e_L (L' := [some (aR 188), some (aI v1), some (aI v2), some (aI v3), some (aI v4), some (aI v5)]) (st' := [aR 188]) (show decode (mC 160) 0 = .ok (.aload_n 0, 1) by decide +kernel) rfl (by show (if 188 = 0 then none else some (_, _)) = _; rw [if_neg (by decide)]) ?_
  refine e_P (st' := [aI 0, aR 188]) (show decode (mC 160) 1 = .ok (.iconst 0, 1) by decide +kernel) rfl rfl rfl ?_
  refine e_putI (show decode (mC 160) 2 = .ok (.putfield 1, 3) by decide +kernel) (show pl 12 1 = some (0, 12, 0, 0) by decide +kernel) (by decide) (sh_ok hG (by decide +kernel)) ?_
  refine e_L (L' := [some (aR 188), some (aI v1), some (aI v2), some (aI v3), some (aI v4), some (aI v5)]) (st' := [aR 188]) (show decode (mC 160) 5 = .ok (.aload_n 0, 1) by decide +kernel) rfl (by show (if 188 = 0 then none else some (_, _)) = _; rw [if_neg (by decide)]) ?_
  refine e_getIx (show decode (mC 160) 6 = .ok (.getfield 7, 3) by decide +kernel) (show pl 12 7 = some (0, 12, 2, 0) by decide +kernel) (by decide) (sh_ok hG (by decide +kernel)) ex1 ?_
  refine e_P (st' := [aI 20, aI x1]) (show decode (mC 160) 9 = .ok (.bipush 20, 2) by decide +kernel) rfl rfl rfl ?_
  refine e_P (st' := [aI (x1 + 20)]) (show decode (mC 160) 11 = .ok (.iadd, 1) by decide +kernel) rfl rfl rfl ?_
  refine e_P (st' := [aI 940, aI (x1 + 20)]) (show decode (mC 160) 12 = .ok (.sipush 940, 3) by decide +kernel) rfl rfl rfl ?_
  refine e_le2 (t := 20) (show decode (mC 160) 15 = .ok (.if_icmp .le 5, 3) by decide +kernel) (by decide) s1 (by decide) (fun p1 => ?_) (fun p1 => ?_)
  · refine e_L (L' := [some (aR 188), some (aI v1), some (aI v2), some (aI v3), some (aI v4), some (aI v5)]) (st' := [aR 188]) (show decode (mC 160) 20 = .ok (.aload_n 0, 1) by decide +kernel) rfl (by show (if 188 = 0 then none else some (_, _)) = _; rw [if_neg (by decide)]) ?_
    refine e_L (L' := [some (aR 188), some (aI v1), some (aI v2), some (aI v3), some (aI v4), some (aI v5)]) (st' := [aI v1, aR 188]) (show decode (mC 160) 21 = .ok (.iload_n 1, 1) by decide +kernel) rfl rfl ?_
    exact e_V (as := [aR 188, aI v1]) (rest := []) (show decode (mC 160) 22 = .ok (.invokevirtual 10, 3) by decide +kernel) (by decide +kernel) (show (decide ((2 : Nat) = mA 161) && decide (161 < q_law)) = true by decide +kernel) rfl (show (0 : Nat) ≤ 8 by decide) (show (2 : Nat) ≤ mL 161 by decide +kernel) rfl (sh_ok hG (by decide +kernel)) (tm_le hQ (leS (leN (leS (leS (leS (leS leE)))))) (m2 p1))
  · refine e_P (st' := [aI (-1)]) (show decode (mC 160) 18 = .ok (.iconst (-1), 1) by decide +kernel) rfl rfl rfl ?_
    exact e_iret (show decode (mC 160) 19 = .ok (.ireturn, 1) by decide +kernel) rfl (z3 p1)
/-- SoulOfficeModel.feed(IIIII)I, from 25 -/
theorem b160_25 (hG : Shp G) {v2 v3 v4 v5 : Int} (hQ : ∀ o o' h', q_eqo o o' → Q o h' → Q o' h')
    (m0 : TM d 161 [aR 188, aI v2] (G, c) (fun r h' => T (d + 1) 160 30 [some (aR 188), none, none, some (aI v3), some (aI v4), some (aI v5)] (r.toList ++ []) h' Q)) :
    T (d + 1) 160 25 [some (aR 188), none, some (aI v2), some (aI v3), some (aI v4), some (aI v5)] [] (G, c) Q := by
  refine e_L (L' := [some (aR 188), none, some (aI v2), some (aI v3), some (aI v4), some (aI v5)]) (st' := [aR 188]) (show decode (mC 160) 25 = .ok (.aload_n 0, 1) by decide +kernel) rfl (by show (if 188 = 0 then none else some (_, _)) = _; rw [if_neg (by decide)]) ?_
  refine e_L (L' := [some (aR 188), none, some (aI v2), some (aI v3), some (aI v4), some (aI v5)]) (st' := [aI v2, aR 188]) (show decode (mC 160) 26 = .ok (.iload_n 2, 1) by decide +kernel) rfl rfl ?_
  exact e_V (as := [aR 188, aI v2]) (rest := []) (show decode (mC 160) 27 = .ok (.invokevirtual 10, 3) by decide +kernel) (by decide +kernel) (show (decide ((2 : Nat) = mA 161) && decide (161 < q_law)) = true by decide +kernel) rfl (show (0 : Nat) ≤ 8 by decide) (show (2 : Nat) ≤ mL 161 by decide +kernel) rfl (sh_ok hG (by decide +kernel)) (tm_le hQ (leS (leS (leN (leS (leS (leS leE)))))) m0)
/-- SoulOfficeModel.feed(IIIII)I, from 30 -/
theorem b160_30 (hG : Shp G) {v3 v4 v5 : Int} (hQ : ∀ o o' h', q_eqo o o' → Q o h' → Q o' h')
    (m0 : TM d 161 [aR 188, aI v3] (G, c) (fun r h' => T (d + 1) 160 35 [some (aR 188), none, none, none, some (aI v4), some (aI v5)] (r.toList ++ []) h' Q)) :
    T (d + 1) 160 30 [some (aR 188), none, none, some (aI v3), some (aI v4), some (aI v5)] [] (G, c) Q := by
  refine e_L (L' := [some (aR 188), none, none, some (aI v3), some (aI v4), some (aI v5)]) (st' := [aR 188]) (show decode (mC 160) 30 = .ok (.aload_n 0, 1) by decide +kernel) rfl (by show (if 188 = 0 then none else some (_, _)) = _; rw [if_neg (by decide)]) ?_
  refine e_L (L' := [some (aR 188), none, none, some (aI v3), some (aI v4), some (aI v5)]) (st' := [aI v3, aR 188]) (show decode (mC 160) 31 = .ok (.iload_n 3, 1) by decide +kernel) rfl rfl ?_
  exact e_V (as := [aR 188, aI v3]) (rest := []) (show decode (mC 160) 32 = .ok (.invokevirtual 10, 3) by decide +kernel) (by decide +kernel) (show (decide ((2 : Nat) = mA 161) && decide (161 < q_law)) = true by decide +kernel) rfl (show (0 : Nat) ≤ 8 by decide) (show (2 : Nat) ≤ mL 161 by decide +kernel) rfl (sh_ok hG (by decide +kernel)) (tm_le hQ (leS (leS (leS (leN (leS (leS leE)))))) m0)
/-- SoulOfficeModel.feed(IIIII)I, from 35 -/
theorem b160_35 (hG : Shp G) {v4 v5 : Int} (hQ : ∀ o o' h', q_eqo o o' → Q o h' → Q o' h')
    (m0 : TM d 161 [aR 188, aI v4] (G, c) (fun r h' => T (d + 1) 160 41 [some (aR 188), none, none, none, none, some (aI v5)] (r.toList ++ []) h' Q)) :
    T (d + 1) 160 35 [some (aR 188), none, none, none, some (aI v4), some (aI v5)] [] (G, c) Q := by
  refine e_L (L' := [some (aR 188), none, none, none, some (aI v4), some (aI v5)]) (st' := [aR 188]) (show decode (mC 160) 35 = .ok (.aload_n 0, 1) by decide +kernel) rfl (by show (if 188 = 0 then none else some (_, _)) = _; rw [if_neg (by decide)]) ?_
  refine e_L (L' := [some (aR 188), none, none, none, some (aI v4), some (aI v5)]) (st' := [aI v4, aR 188]) (show decode (mC 160) 36 = .ok (.iload 4, 2) by decide +kernel) rfl rfl ?_
  exact e_V (as := [aR 188, aI v4]) (rest := []) (show decode (mC 160) 38 = .ok (.invokevirtual 10, 3) by decide +kernel) (by decide +kernel) (show (decide ((2 : Nat) = mA 161) && decide (161 < q_law)) = true by decide +kernel) rfl (show (0 : Nat) ≤ 8 by decide) (show (2 : Nat) ≤ mL 161 by decide +kernel) rfl (sh_ok hG (by decide +kernel)) (tm_le hQ (leS (leS (leS (leS (leN (leS leE)))))) m0)
/-- SoulOfficeModel.feed(IIIII)I, from 41 -/
theorem b160_41 (hG : Shp G) {v5 : Int} (hQ : ∀ o o' h', q_eqo o o' → Q o h' → Q o' h')
    (m0 : TM d 161 [aR 188, aI v5] (G, c) (fun r h' => T (d + 1) 160 47 [some (aR 188), none, none, none, none, none] (r.toList ++ []) h' Q)) :
    T (d + 1) 160 41 [some (aR 188), none, none, none, none, some (aI v5)] [] (G, c) Q := by
  refine e_L (L' := [some (aR 188), none, none, none, none, some (aI v5)]) (st' := [aR 188]) (show decode (mC 160) 41 = .ok (.aload_n 0, 1) by decide +kernel) rfl (by show (if 188 = 0 then none else some (_, _)) = _; rw [if_neg (by decide)]) ?_
  refine e_L (L' := [some (aR 188), none, none, none, none, some (aI v5)]) (st' := [aI v5, aR 188]) (show decode (mC 160) 42 = .ok (.iload 5, 2) by decide +kernel) rfl rfl ?_
  exact e_V (as := [aR 188, aI v5]) (rest := []) (show decode (mC 160) 44 = .ok (.invokevirtual 10, 3) by decide +kernel) (by decide +kernel) (show (decide ((2 : Nat) = mA 161) && decide (161 < q_law)) = true by decide +kernel) rfl (show (0 : Nat) ≤ 8 by decide) (show (2 : Nat) ≤ mL 161 by decide +kernel) rfl (sh_ok hG (by decide +kernel)) (tm_le hQ (leS (leS (leS (leS (leS (leN leE)))))) m0)
/-- SoulOfficeModel.feed(IIIII)I, from 47 -/
theorem b160_47 (hG : Shp G) {x1 : Int}
    (ex1 : c 188 2 = x1)
    (z1 : Q (.inl (some (aI x1))) (G, c)) :
    T (d + 1) 160 47 [some (aR 188), none, none, none, none, none] [] (G, c) Q := by
  refine e_L (L' := [some (aR 188), none, none, none, none, none]) (st' := [aR 188]) (show decode (mC 160) 47 = .ok (.aload_n 0, 1) by decide +kernel) rfl (by show (if 188 = 0 then none else some (_, _)) = _; rw [if_neg (by decide)]) ?_
  refine e_getIx (show decode (mC 160) 48 = .ok (.getfield 7, 3) by decide +kernel) (show pl 12 7 = some (0, 12, 2, 0) by decide +kernel) (by decide) (sh_ok hG (by decide +kernel)) ex1 ?_
  exact e_iret (show decode (mC 160) 51 = .ok (.ireturn, 1) by decide +kernel) rfl z1
/-- SoulOfficeModel.four(I)V, from 0 -/
theorem b161_0 (hG : Shp G) {v1 : Int}
    (k0 : T d 161 3 [some (aR 188), some (aI v1), some (aI 24)] [] (G, c) Q) :
    T d 161 0 [some (aR 188), some (aI v1), none] [] (G, c) Q := by
  refine e_P (st' := [aI 24]) (show decode (mC 161) 0 = .ok (.bipush 24, 2) by decide +kernel) rfl rfl rfl ?_
  refine e_L (L' := [some (aR 188), some (aI v1), some (aI 24)]) (st' := []) (show decode (mC 161) 2 = .ok (.istore_n 2, 1) by decide +kernel) rfl rfl ?_
  exact k0
/-- SoulOfficeModel.four(I)V, from 3 -/
theorem b161_3 (hG : Shp G) {v1 v2 x1 x2 : Int}
    (s0 : -2147483648 ≤ v2 ∧ v2 < 2147483648)
    (z1 : (v2 < 0) → Q (.inl none) (G, c))
    (ex1 : c 188 2 = x1)
    (s3 : (0 ≤ v2) → 0 ≤ x1)
    (s4 : (0 ≤ v2) → x1 < 940)
    (ex2 : (q_up c 189 x1 (q_nar 22 (q_i2b (q_shr v1 v2)))) 188 2 = x2)
    (k6 : (0 ≤ v2) → T d 161 3 [some (aR 188), some (aI v1), some (aI (v2 + (-8)))] [] (G, (q_up (q_up c 189 x1 (q_nar 22 (q_i2b (q_shr v1 v2)))) 188 2 (x2 + 1))) Q) :
    T d 161 3 [some (aR 188), some (aI v1), some (aI v2)] [] (G, c) Q := by
  refine e_L (L' := [some (aR 188), some (aI v1), some (aI v2)]) (st' := [aI v2]) (show decode (mC 161) 3 = .ok (.iload_n 2, 1) by decide +kernel) rfl rfl ?_
  refine e_lt1 (t := 36) (show decode (mC 161) 4 = .ok (.ifCond .lt 32, 3) by decide +kernel) (by decide) s0 (fun p1 => ?_) (fun p1 => ?_)
  · exact e_vret (show decode (mC 161) 36 = .ok (.return_, 1) by decide +kernel) rfl (z1 p1)
  · refine e_L (L' := [some (aR 188), some (aI v1), some (aI v2)]) (st' := [aR 188]) (show decode (mC 161) 7 = .ok (.aload_n 0, 1) by decide +kernel) rfl (by show (if 188 = 0 then none else some (_, _)) = _; rw [if_neg (by decide)]) ?_
    refine e_getR (w := 189) (show decode (mC 161) 8 = .ok (.getfield 14, 3) by decide +kernel) (show pl 12 14 = some (0, 12, 1, 0) by decide +kernel) (by decide) (sh_ok hG (by decide +kernel)) (sh_rf hG (by decide +kernel)) ?_
    refine e_L (L' := [some (aR 188), some (aI v1), some (aI v2)]) (st' := [aR 188, aR 189]) (show decode (mC 161) 11 = .ok (.aload_n 0, 1) by decide +kernel) rfl (by show (if 188 = 0 then none else some (_, _)) = _; rw [if_neg (by decide)]) ?_
    refine e_getIx (show decode (mC 161) 12 = .ok (.getfield 7, 3) by decide +kernel) (show pl 12 7 = some (0, 12, 2, 0) by decide +kernel) (by decide) (sh_ok hG (by decide +kernel)) ex1 ?_
    refine e_L (L' := [some (aR 188), some (aI v1), some (aI v2)]) (st' := [aI v1, aI x1, aR 189]) (show decode (mC 161) 15 = .ok (.iload_n 1, 1) by decide +kernel) rfl rfl ?_
    refine e_L (L' := [some (aR 188), some (aI v1), some (aI v2)]) (st' := [aI v2, aI v1, aI x1, aR 189]) (show decode (mC 161) 16 = .ok (.iload_n 2, 1) by decide +kernel) rfl rfl ?_
    refine e_P (st' := [aI (q_shr v1 v2), aI x1, aR 189]) (show decode (mC 161) 17 = .ok (.ishr, 1) by decide +kernel) rfl rfl rfl ?_
    refine e_P (st' := [aI (q_i2b (q_shr v1 v2)), aI x1, aR 189]) (show decode (mC 161) 18 = .ok (.i2b, 1) by decide +kernel) rfl rfl rfl ?_
    refine e_bast (ki := 22) (n := 940) (show decode (mC 161) 19 = .ok (.bastore, 1) by decide +kernel) (sh_ok hG (by decide +kernel)) (by decide) (sh_ln hG (by decide +kernel)) (by decide) (s3 p1) (s4 p1) ?_
    refine e_L (L' := [some (aR 188), some (aI v1), some (aI v2)]) (st' := [aR 188]) (show decode (mC 161) 20 = .ok (.aload_n 0, 1) by decide +kernel) rfl (by show (if 188 = 0 then none else some (_, _)) = _; rw [if_neg (by decide)]) ?_
    refine e_P (st' := [aR 188, aR 188]) (show decode (mC 161) 21 = .ok (.dup, 1) by decide +kernel) rfl rfl rfl ?_
    refine e_getIx (show decode (mC 161) 22 = .ok (.getfield 7, 3) by decide +kernel) (show pl 12 7 = some (0, 12, 2, 0) by decide +kernel) (by decide) (sh_ok hG (by decide +kernel)) ex2 ?_
    refine e_P (st' := [aI 1, aI x2, aR 188]) (show decode (mC 161) 25 = .ok (.iconst 1, 1) by decide +kernel) rfl rfl rfl ?_
    refine e_P (st' := [aI (x2 + 1), aR 188]) (show decode (mC 161) 26 = .ok (.iadd, 1) by decide +kernel) rfl rfl rfl ?_
    refine e_putI (show decode (mC 161) 27 = .ok (.putfield 7, 3) by decide +kernel) (show pl 12 7 = some (0, 12, 2, 0) by decide +kernel) (by decide) (sh_ok hG (by decide +kernel)) ?_
    refine e_L (L' := [some (aR 188), some (aI v1), some (aI (v2 + (-8)))]) (st' := []) (show decode (mC 161) 30 = .ok (.iinc 2 (-8), 3) by decide +kernel) rfl rfl ?_
    refine e_go (t := 3) (show decode (mC 161) 33 = .ok (.goto (-30), 3) by decide +kernel) (by decide) ?_
    exact (k6 p1)
/-- SoulOfficeModel.end(I)Z, from 0 -/
theorem b162_0 (hG : Shp G) {v1 x1 : Int}
    (s0 : -2147483648 ≤ v1 ∧ v1 < 2147483648)
    (z1 : (v1 < 0) → Q (.inl (some (aI 0))) (G, (q_up c 188 0 0)))
    (ex1 : (q_up c 188 0 0) 188 2 = x1)
    (s3 : (0 ≤ v1) → -2147483648 ≤ x1 ∧ x1 < 2147483648)
    (z4 : (0 ≤ v1) → (v1 ≤ x1) → Q (.inl (some (aI 1))) (G, (q_up (q_up c 188 0 0) 188 2 v1)))
    (z5 : (0 ≤ v1) → (x1 < v1) → Q (.inl (some (aI 0))) (G, (q_up c 188 0 0))) :
    T d 162 0 [some (aR 188), some (aI v1)] [] (G, c) Q := by
  refine e_L (L' := [some (aR 188), some (aI v1)]) (st' := [aR 188]) (show decode (mC 162) 0 = .ok (.aload_n 0, 1) by decide +kernel) rfl (by show (if 188 = 0 then none else some (_, _)) = _; rw [if_neg (by decide)]) ?_
  refine e_P (st' := [aI 0, aR 188]) (show decode (mC 162) 1 = .ok (.iconst 0, 1) by decide +kernel) rfl rfl rfl ?_
  refine e_putI (show decode (mC 162) 2 = .ok (.putfield 1, 3) by decide +kernel) (show pl 12 1 = some (0, 12, 0, 0) by decide +kernel) (by decide) (sh_ok hG (by decide +kernel)) ?_
  refine e_L (L' := [some (aR 188), some (aI v1)]) (st' := [aI v1]) (show decode (mC 162) 5 = .ok (.iload_n 1, 1) by decide +kernel) rfl rfl ?_
  refine e_lt1 (t := 17) (show decode (mC 162) 6 = .ok (.ifCond .lt 11, 3) by decide +kernel) (by decide) s0 (fun p1 => ?_) (fun p1 => ?_)
  · refine e_P (st' := [aI 0]) (show decode (mC 162) 17 = .ok (.iconst 0, 1) by decide +kernel) rfl rfl rfl ?_
    exact e_zret (show decode (mC 162) 18 = .ok (.ireturn, 1) by decide +kernel) rfl (by decide) (z1 p1)
  · refine e_L (L' := [some (aR 188), some (aI v1)]) (st' := [aI v1]) (show decode (mC 162) 9 = .ok (.iload_n 1, 1) by decide +kernel) rfl rfl ?_
    refine e_L (L' := [some (aR 188), some (aI v1)]) (st' := [aR 188, aI v1]) (show decode (mC 162) 10 = .ok (.aload_n 0, 1) by decide +kernel) rfl (by show (if 188 = 0 then none else some (_, _)) = _; rw [if_neg (by decide)]) ?_
    refine e_getIx (show decode (mC 162) 11 = .ok (.getfield 7, 3) by decide +kernel) (show pl 12 7 = some (0, 12, 2, 0) by decide +kernel) (by decide) (sh_ok hG (by decide +kernel)) ex1 ?_
    refine e_le2 (t := 19) (show decode (mC 162) 14 = .ok (.if_icmp .le 5, 3) by decide +kernel) (by decide) s0 (s3 p1) (fun p2 => ?_) (fun p2 => ?_)
    · refine e_L (L' := [some (aR 188), some (aI v1)]) (st' := [aR 188]) (show decode (mC 162) 19 = .ok (.aload_n 0, 1) by decide +kernel) rfl (by show (if 188 = 0 then none else some (_, _)) = _; rw [if_neg (by decide)]) ?_
      refine e_L (L' := [some (aR 188), some (aI v1)]) (st' := [aI v1, aR 188]) (show decode (mC 162) 20 = .ok (.iload_n 1, 1) by decide +kernel) rfl rfl ?_
      refine e_putI (show decode (mC 162) 21 = .ok (.putfield 7, 3) by decide +kernel) (show pl 12 7 = some (0, 12, 2, 0) by decide +kernel) (by decide) (sh_ok hG (by decide +kernel)) ?_
      refine e_P (st' := [aI 1]) (show decode (mC 162) 24 = .ok (.iconst 1, 1) by decide +kernel) rfl rfl rfl ?_
      exact e_zret (show decode (mC 162) 25 = .ok (.ireturn, 1) by decide +kernel) rfl (by decide) (z4 p1 p2)
    · refine e_P (st' := [aI 0]) (show decode (mC 162) 17 = .ok (.iconst 0, 1) by decide +kernel) rfl rfl rfl ?_
      exact e_zret (show decode (mC 162) 18 = .ok (.ireturn, 1) by decide +kernel) rfl (by decide) (z5 p1 p2)
/-- SoulOfficeModel.taken(I)V, from 0 -/
theorem b163_0 (hG : Shp G) {v1 x1 : Int}
    (ex1 : c 188 2 = x1)
    (z1 : Q (.inl none) (G, (q_up (q_up (q_up (q_up c 188 3 x1) 188 2 0) 188 4 0) 188 5 v1))) :
    T d 163 0 [some (aR 188), some (aI v1)] [] (G, c) Q := by
  refine e_L (L' := [some (aR 188), some (aI v1)]) (st' := [aR 188]) (show decode (mC 163) 0 = .ok (.aload_n 0, 1) by decide +kernel) rfl (by show (if 188 = 0 then none else some (_, _)) = _; rw [if_neg (by decide)]) ?_
  refine e_L (L' := [some (aR 188), some (aI v1)]) (st' := [aR 188, aR 188]) (show decode (mC 163) 1 = .ok (.aload_n 0, 1) by decide +kernel) rfl (by show (if 188 = 0 then none else some (_, _)) = _; rw [if_neg (by decide)]) ?_
  refine e_getIx (show decode (mC 163) 2 = .ok (.getfield 7, 3) by decide +kernel) (show pl 12 7 = some (0, 12, 2, 0) by decide +kernel) (by decide) (sh_ok hG (by decide +kernel)) ex1 ?_
  refine e_putI (show decode (mC 163) 5 = .ok (.putfield 18, 3) by decide +kernel) (show pl 12 18 = some (0, 12, 3, 0) by decide +kernel) (by decide) (sh_ok hG (by decide +kernel)) ?_
  refine e_L (L' := [some (aR 188), some (aI v1)]) (st' := [aR 188]) (show decode (mC 163) 8 = .ok (.aload_n 0, 1) by decide +kernel) rfl (by show (if 188 = 0 then none else some (_, _)) = _; rw [if_neg (by decide)]) ?_
  refine e_P (st' := [aI 0, aR 188]) (show decode (mC 163) 9 = .ok (.iconst 0, 1) by decide +kernel) rfl rfl rfl ?_
  refine e_putI (show decode (mC 163) 10 = .ok (.putfield 7, 3) by decide +kernel) (show pl 12 7 = some (0, 12, 2, 0) by decide +kernel) (by decide) (sh_ok hG (by decide +kernel)) ?_
  refine e_L (L' := [some (aR 188), some (aI v1)]) (st' := [aR 188]) (show decode (mC 163) 13 = .ok (.aload_n 0, 1) by decide +kernel) rfl (by show (if 188 = 0 then none else some (_, _)) = _; rw [if_neg (by decide)]) ?_
  refine e_P (st' := [aI 0, aR 188]) (show decode (mC 163) 14 = .ok (.iconst 0, 1) by decide +kernel) rfl rfl rfl ?_
  refine e_putI (show decode (mC 163) 15 = .ok (.putfield 21, 3) by decide +kernel) (show pl 12 21 = some (0, 12, 4, 0) by decide +kernel) (by decide) (sh_ok hG (by decide +kernel)) ?_
  refine e_L (L' := [some (aR 188), some (aI v1)]) (st' := [aR 188]) (show decode (mC 163) 18 = .ok (.aload_n 0, 1) by decide +kernel) rfl (by show (if 188 = 0 then none else some (_, _)) = _; rw [if_neg (by decide)]) ?_
  refine e_L (L' := [some (aR 188), some (aI v1)]) (st' := [aI v1, aR 188]) (show decode (mC 163) 19 = .ok (.iload_n 1, 1) by decide +kernel) rfl rfl ?_
  refine e_putI (show decode (mC 163) 20 = .ok (.putfield 24, 3) by decide +kernel) (show pl 12 24 = some (0, 12, 5, 0) by decide +kernel) (by decide) (sh_ok hG (by decide +kernel)) ?_
  exact e_vret (show decode (mC 163) 23 = .ok (.return_, 1) by decide +kernel) rfl z1
/-- SoulOfficeModel.isIn(III)Z, from 0 -/
theorem b164_0 (hG : Shp G) {v0 v1 v2 : Int}
    (s0 : -2147483648 ≤ v0 ∧ v0 < 2147483648)
    (s1 : -2147483648 ≤ v1 ∧ v1 < 2147483648)
    (z2 : (v0 < v1) → Q (.inl (some (aI 0))) (G, c))
    (s3 : (v1 ≤ v0) → -2147483648 ≤ v2 ∧ v2 < 2147483648)
    (z4 : (v1 ≤ v0) → (v2 < v0) → Q (.inl (some (aI 0))) (G, c))
    (z5 : (v1 ≤ v0) → (v0 ≤ v2) → Q (.inl (some (aI 1))) (G, c)) :
    T d 164 0 [some (aI v0), some (aI v1), some (aI v2)] [] (G, c) Q := by
  refine e_L (L' := [some (aI v0), some (aI v1), some (aI v2)]) (st' := [aI v0]) (show decode (mC 164) 0 = .ok (.iload_n 0, 1) by decide +kernel) rfl rfl ?_
  refine e_L (L' := [some (aI v0), some (aI v1), some (aI v2)]) (st' := [aI v1, aI v0]) (show decode (mC 164) 1 = .ok (.iload_n 1, 1) by decide +kernel) rfl rfl ?_
  refine e_lt2 (t := 14) (show decode (mC 164) 2 = .ok (.if_icmp .lt 12, 3) by decide +kernel) (by decide) s0 s1 (fun p1 => ?_) (fun p1 => ?_)
  · refine e_P (st' := [aI 0]) (show decode (mC 164) 14 = .ok (.iconst 0, 1) by decide +kernel) rfl rfl rfl ?_
    exact e_zret (show decode (mC 164) 15 = .ok (.ireturn, 1) by decide +kernel) rfl (by decide) (z2 p1)
  · refine e_L (L' := [some (aI v0), some (aI v1), some (aI v2)]) (st' := [aI v0]) (show decode (mC 164) 5 = .ok (.iload_n 0, 1) by decide +kernel) rfl rfl ?_
    refine e_L (L' := [some (aI v0), some (aI v1), some (aI v2)]) (st' := [aI v2, aI v0]) (show decode (mC 164) 6 = .ok (.iload_n 2, 1) by decide +kernel) rfl rfl ?_
    refine e_gt2 (t := 14) (show decode (mC 164) 7 = .ok (.if_icmp .gt 7, 3) by decide +kernel) (by decide) s0 (s3 p1) (fun p2 => ?_) (fun p2 => ?_)
    · refine e_P (st' := [aI 0]) (show decode (mC 164) 14 = .ok (.iconst 0, 1) by decide +kernel) rfl rfl rfl ?_
      exact e_zret (show decode (mC 164) 15 = .ok (.ireturn, 1) by decide +kernel) rfl (by decide) (z4 p1 p2)
    · refine e_P (st' := [aI 1]) (show decode (mC 164) 10 = .ok (.iconst 1, 1) by decide +kernel) rfl rfl rfl ?_
      refine e_go (t := 15) (show decode (mC 164) 11 = .ok (.goto 4, 3) by decide +kernel) (by decide) ?_
      exact e_zret (show decode (mC 164) 15 = .ok (.ireturn, 1) by decide +kernel) rfl (by decide) (z5 p1 p2)
/-- SoulOfficeModel.bitOf(II)Z, from 0 -/
theorem b165_0 (hG : Shp G) {v0 v1 : Int}
    (s0 : -2147483648 ≤ (q_and (q_shr v0 v1) 1) ∧ (q_and (q_shr v0 v1) 1) < 2147483648)
    (z1 : (¬ (q_and (q_shr v0 v1) 1) = 1) → Q (.inl (some (aI 0))) (G, c))
    (z2 : ((q_and (q_shr v0 v1) 1) = 1) → Q (.inl (some (aI 1))) (G, c)) :
    T d 165 0 [some (aI v0), some (aI v1)] [] (G, c) Q := by
  refine e_L (L' := [some (aI v0), some (aI v1)]) (st' := [aI v0]) (show decode (mC 165) 0 = .ok (.iload_n 0, 1) by decide +kernel) rfl rfl ?_
  refine e_L (L' := [some (aI v0), some (aI v1)]) (st' := [aI v1, aI v0]) (show decode (mC 165) 1 = .ok (.iload_n 1, 1) by decide +kernel) rfl rfl ?_
  refine e_P (st' := [aI (q_shr v0 v1)]) (show decode (mC 165) 2 = .ok (.ishr, 1) by decide +kernel) rfl rfl rfl ?_
  refine e_P (st' := [aI 1, aI (q_shr v0 v1)]) (show decode (mC 165) 3 = .ok (.iconst 1, 1) by decide +kernel) rfl rfl rfl ?_
  refine e_P (st' := [aI (q_and (q_shr v0 v1) 1)]) (show decode (mC 165) 4 = .ok (.iand, 1) by decide +kernel) rfl rfl rfl ?_
  refine e_P (st' := [aI 1, aI (q_and (q_shr v0 v1) 1)]) (show decode (mC 165) 5 = .ok (.iconst 1, 1) by decide +kernel) rfl rfl rfl ?_
  refine e_ne2 (t := 13) (show decode (mC 165) 6 = .ok (.if_icmp .ne 7, 3) by decide +kernel) (by decide) s0 (by decide) (fun p1 => ?_) (fun p1 => ?_)
  · refine e_P (st' := [aI 0]) (show decode (mC 165) 13 = .ok (.iconst 0, 1) by decide +kernel) rfl rfl rfl ?_
    exact e_zret (show decode (mC 165) 14 = .ok (.ireturn, 1) by decide +kernel) rfl (by decide) (z1 p1)
  · refine e_P (st' := [aI 1]) (show decode (mC 165) 9 = .ok (.iconst 1, 1) by decide +kernel) rfl rfl rfl ?_
    refine e_go (t := 14) (show decode (mC 165) 10 = .ok (.goto 4, 3) by decide +kernel) (by decide) ?_
    exact e_zret (show decode (mC 165) 14 = .ok (.ireturn, 1) by decide +kernel) rfl (by decide) (z2 p1)
/-- SoulOfficeModel.lesser(II)I, from 0 -/
theorem b166_0 (hG : Shp G) {v0 v1 : Int}
    (s0 : -2147483648 ≤ v0 ∧ v0 < 2147483648)
    (s1 : -2147483648 ≤ v1 ∧ v1 < 2147483648)
    (z2 : (v1 ≤ v0) → Q (.inl (some (aI v1))) (G, c))
    (z3 : (v0 < v1) → Q (.inl (some (aI v0))) (G, c)) :
    T d 166 0 [some (aI v0), some (aI v1)] [] (G, c) Q := by
  refine e_L (L' := [some (aI v0), some (aI v1)]) (st' := [aI v0]) (show decode (mC 166) 0 = .ok (.iload_n 0, 1) by decide +kernel) rfl rfl ?_
  refine e_L (L' := [some (aI v0), some (aI v1)]) (st' := [aI v1, aI v0]) (show decode (mC 166) 1 = .ok (.iload_n 1, 1) by decide +kernel) rfl rfl ?_
  refine e_ge2 (t := 9) (show decode (mC 166) 2 = .ok (.if_icmp .ge 7, 3) by decide +kernel) (by decide) s0 s1 (fun p1 => ?_) (fun p1 => ?_)
  · refine e_L (L' := [some (aI v0), some (aI v1)]) (st' := [aI v1]) (show decode (mC 166) 9 = .ok (.iload_n 1, 1) by decide +kernel) rfl rfl ?_
    exact e_iret (show decode (mC 166) 10 = .ok (.ireturn, 1) by decide +kernel) rfl (z2 p1)
  · refine e_L (L' := [some (aI v0), some (aI v1)]) (st' := [aI v0]) (show decode (mC 166) 5 = .ok (.iload_n 0, 1) by decide +kernel) rfl rfl ?_
    refine e_go (t := 10) (show decode (mC 166) 6 = .ok (.goto 4, 3) by decide +kernel) (by decide) ?_
    exact e_iret (show decode (mC 166) 10 = .ok (.ireturn, 1) by decide +kernel) rfl (z3 p1)
/-- SoulOfficeModel.octet(I)I, from 0 -/
theorem b167_0 (hG : Shp G) {v1 x1 : Int}
    (s0 : 0 ≤ v1)
    (s1 : v1 < 940)
    (ex1 : c 189 v1 = x1)
    (z3 : Q (.inl (some (aI (q_and x1 255)))) (G, c)) :
    T d 167 0 [some (aR 188), some (aI v1)] [] (G, c) Q := by
  refine e_L (L' := [some (aR 188), some (aI v1)]) (st' := [aR 188]) (show decode (mC 167) 0 = .ok (.aload_n 0, 1) by decide +kernel) rfl (by show (if 188 = 0 then none else some (_, _)) = _; rw [if_neg (by decide)]) ?_
  refine e_getR (w := 189) (show decode (mC 167) 1 = .ok (.getfield 14, 3) by decide +kernel) (show pl 12 14 = some (0, 12, 1, 0) by decide +kernel) (by decide) (sh_ok hG (by decide +kernel)) (sh_rf hG (by decide +kernel)) ?_
  refine e_L (L' := [some (aR 188), some (aI v1)]) (st' := [aI v1, aR 189]) (show decode (mC 167) 4 = .ok (.iload_n 1, 1) by decide +kernel) rfl rfl ?_
  refine e_baldx (n := 940) (show decode (mC 167) 5 = .ok (.baload, 1) by decide +kernel) (Or.inl (sh_ok hG (by decide +kernel))) (sh_ln hG (by decide +kernel)) (by decide) s0 s1 ex1 ?_
  refine e_P (st' := [aI 255, aI x1]) (show decode (mC 167) 6 = .ok (.sipush 255, 3) by decide +kernel) rfl rfl rfl ?_
  refine e_P (st' := [aI (q_and x1 255)]) (show decode (mC 167) 9 = .ok (.iand, 1) by decide +kernel) rfl rfl rfl ?_
  exact e_iret (show decode (mC 167) 10 = .ok (.ireturn, 1) by decide +kernel) rfl z3
/-- SoulOfficeModel.peek()I, from 0 -/
theorem b169_0 (hG : Shp G) {x1 x2 x3 x4 : Int}
    (ex1 : c 188 4 = x1)
    (ex2 : c 188 3 = x2)
    (s2 : -2147483648 ≤ x1 ∧ x1 < 2147483648)
    (s3 : -2147483648 ≤ x2 ∧ x2 < 2147483648)
    (z4 : (x2 ≤ x1) → Q (.inl (some (aI (-1)))) (G, c))
    (ex3 : c 188 4 = x3)
    (s6 : (x1 < x2) → 0 ≤ x3)
    (s7 : (x1 < x2) → x3 < 940)
    (ex4 : c 189 x3 = x4)
    (z9 : (x1 < x2) → Q (.inl (some (aI (q_and x4 255)))) (G, c)) :
    T d 169 0 [some (aR 188)] [] (G, c) Q := by
  refine e_L (L' := [some (aR 188)]) (st' := [aR 188]) (show decode (mC 169) 0 = .ok (.aload_n 0, 1) by decide +kernel) rfl (by show (if 188 = 0 then none else some (_, _)) = _; rw [if_neg (by decide)]) ?_
  refine e_getIx (show decode (mC 169) 1 = .ok (.getfield 21, 3) by decide +kernel) (show pl 12 21 = some (0, 12, 4, 0) by decide +kernel) (by decide) (sh_ok hG (by decide +kernel)) ex1 ?_
  refine e_L (L' := [some (aR 188)]) (st' := [aR 188, aI x1]) (show decode (mC 169) 4 = .ok (.aload_n 0, 1) by decide +kernel) rfl (by show (if 188 = 0 then none else some (_, _)) = _; rw [if_neg (by decide)]) ?_
  refine e_getIx (show decode (mC 169) 5 = .ok (.getfield 18, 3) by decide +kernel) (show pl 12 18 = some (0, 12, 3, 0) by decide +kernel) (by decide) (sh_ok hG (by decide +kernel)) ex2 ?_
  refine e_ge2 (t := 27) (show decode (mC 169) 8 = .ok (.if_icmp .ge 19, 3) by decide +kernel) (by decide) s2 s3 (fun p1 => ?_) (fun p1 => ?_)
  · refine e_P (st' := [aI (-1)]) (show decode (mC 169) 27 = .ok (.iconst (-1), 1) by decide +kernel) rfl rfl rfl ?_
    exact e_iret (show decode (mC 169) 28 = .ok (.ireturn, 1) by decide +kernel) rfl (z4 p1)
  · refine e_L (L' := [some (aR 188)]) (st' := [aR 188]) (show decode (mC 169) 11 = .ok (.aload_n 0, 1) by decide +kernel) rfl (by show (if 188 = 0 then none else some (_, _)) = _; rw [if_neg (by decide)]) ?_
    refine e_getR (w := 189) (show decode (mC 169) 12 = .ok (.getfield 14, 3) by decide +kernel) (show pl 12 14 = some (0, 12, 1, 0) by decide +kernel) (by decide) (sh_ok hG (by decide +kernel)) (sh_rf hG (by decide +kernel)) ?_
    refine e_L (L' := [some (aR 188)]) (st' := [aR 188, aR 189]) (show decode (mC 169) 15 = .ok (.aload_n 0, 1) by decide +kernel) rfl (by show (if 188 = 0 then none else some (_, _)) = _; rw [if_neg (by decide)]) ?_
    refine e_getIx (show decode (mC 169) 16 = .ok (.getfield 21, 3) by decide +kernel) (show pl 12 21 = some (0, 12, 4, 0) by decide +kernel) (by decide) (sh_ok hG (by decide +kernel)) ex3 ?_
    refine e_baldx (n := 940) (show decode (mC 169) 19 = .ok (.baload, 1) by decide +kernel) (Or.inl (sh_ok hG (by decide +kernel))) (sh_ln hG (by decide +kernel)) (by decide) (s6 p1) (s7 p1) ex4 ?_
    refine e_P (st' := [aI 255, aI x4]) (show decode (mC 169) 20 = .ok (.sipush 255, 3) by decide +kernel) rfl rfl rfl ?_
    refine e_P (st' := [aI (q_and x4 255)]) (show decode (mC 169) 23 = .ok (.iand, 1) by decide +kernel) rfl rfl rfl ?_
    refine e_go (t := 28) (show decode (mC 169) 24 = .ok (.goto 4, 3) by decide +kernel) (by decide) ?_
    exact e_iret (show decode (mC 169) 28 = .ok (.ireturn, 1) by decide +kernel) rfl (z9 p1)
/-- SoulOfficeModel.isSmall(I)Z, from 0 -/
theorem b170_0 (hG : Shp G) {v0 : Int}
    (s0 : -2147483648 ≤ v0 ∧ v0 < 2147483648)
    (z1 : (v0 < 97) → Q (.inl (some (aI 0))) (G, c))
    (z2 : (97 ≤ v0) → (122 < v0) → Q (.inl (some (aI 0))) (G, c))
    (z3 : (97 ≤ v0) → (v0 ≤ 122) → Q (.inl (some (aI 1))) (G, c)) :
    T d 170 0 [some (aI v0)] [] (G, c) Q := by
  refine e_L (L' := [some (aI v0)]) (st' := [aI v0]) (show decode (mC 170) 0 = .ok (.iload_n 0, 1) by decide +kernel) rfl rfl ?_
  refine e_P (st' := [aI 97, aI v0]) (show decode (mC 170) 1 = .ok (.bipush 97, 2) by decide +kernel) rfl rfl rfl ?_
  refine e_lt2 (t := 16) (show decode (mC 170) 3 = .ok (.if_icmp .lt 13, 3) by decide +kernel) (by decide) s0 (by decide) (fun p1 => ?_) (fun p1 => ?_)
  · refine e_P (st' := [aI 0]) (show decode (mC 170) 16 = .ok (.iconst 0, 1) by decide +kernel) rfl rfl rfl ?_
    exact e_zret (show decode (mC 170) 17 = .ok (.ireturn, 1) by decide +kernel) rfl (by decide) (z1 p1)
  · refine e_L (L' := [some (aI v0)]) (st' := [aI v0]) (show decode (mC 170) 6 = .ok (.iload_n 0, 1) by decide +kernel) rfl rfl ?_
    refine e_P (st' := [aI 122, aI v0]) (show decode (mC 170) 7 = .ok (.bipush 122, 2) by decide +kernel) rfl rfl rfl ?_
    refine e_gt2 (t := 16) (show decode (mC 170) 9 = .ok (.if_icmp .gt 7, 3) by decide +kernel) (by decide) s0 (by decide) (fun p2 => ?_) (fun p2 => ?_)
    · refine e_P (st' := [aI 0]) (show decode (mC 170) 16 = .ok (.iconst 0, 1) by decide +kernel) rfl rfl rfl ?_
      exact e_zret (show decode (mC 170) 17 = .ok (.ireturn, 1) by decide +kernel) rfl (by decide) (z2 p1 p2)
    · refine e_P (st' := [aI 1]) (show decode (mC 170) 12 = .ok (.iconst 1, 1) by decide +kernel) rfl rfl rfl ?_
      refine e_go (t := 17) (show decode (mC 170) 13 = .ok (.goto 4, 3) by decide +kernel) (by decide) ?_
      exact e_zret (show decode (mC 170) 17 = .ok (.ireturn, 1) by decide +kernel) rfl (by decide) (z3 p1 p2)
/-- SoulOfficeModel.isDigit(I)Z, from 0 -/
theorem b171_0 (hG : Shp G) {v0 : Int}
    (s0 : -2147483648 ≤ v0 ∧ v0 < 2147483648)
    (z1 : (v0 < 48) → Q (.inl (some (aI 0))) (G, c))
    (z2 : (48 ≤ v0) → (57 < v0) → Q (.inl (some (aI 0))) (G, c))
    (z3 : (48 ≤ v0) → (v0 ≤ 57) → Q (.inl (some (aI 1))) (G, c)) :
    T d 171 0 [some (aI v0)] [] (G, c) Q := by
  refine e_L (L' := [some (aI v0)]) (st' := [aI v0]) (show decode (mC 171) 0 = .ok (.iload_n 0, 1) by decide +kernel) rfl rfl ?_
  refine e_P (st' := [aI 48, aI v0]) (show decode (mC 171) 1 = .ok (.bipush 48, 2) by decide +kernel) rfl rfl rfl ?_
  refine e_lt2 (t := 16) (show decode (mC 171) 3 = .ok (.if_icmp .lt 13, 3) by decide +kernel) (by decide) s0 (by decide) (fun p1 => ?_) (fun p1 => ?_)
  · refine e_P (st' := [aI 0]) (show decode (mC 171) 16 = .ok (.iconst 0, 1) by decide +kernel) rfl rfl rfl ?_
    exact e_zret (show decode (mC 171) 17 = .ok (.ireturn, 1) by decide +kernel) rfl (by decide) (z1 p1)
  · refine e_L (L' := [some (aI v0)]) (st' := [aI v0]) (show decode (mC 171) 6 = .ok (.iload_n 0, 1) by decide +kernel) rfl rfl ?_
    refine e_P (st' := [aI 57, aI v0]) (show decode (mC 171) 7 = .ok (.bipush 57, 2) by decide +kernel) rfl rfl rfl ?_
    refine e_gt2 (t := 16) (show decode (mC 171) 9 = .ok (.if_icmp .gt 7, 3) by decide +kernel) (by decide) s0 (by decide) (fun p2 => ?_) (fun p2 => ?_)
    · refine e_P (st' := [aI 0]) (show decode (mC 171) 16 = .ok (.iconst 0, 1) by decide +kernel) rfl rfl rfl ?_
      exact e_zret (show decode (mC 171) 17 = .ok (.ireturn, 1) by decide +kernel) rfl (by decide) (z2 p1 p2)
    · refine e_P (st' := [aI 1]) (show decode (mC 171) 12 = .ok (.iconst 1, 1) by decide +kernel) rfl rfl rfl ?_
      refine e_go (t := 17) (show decode (mC 171) 13 = .ok (.goto 4, 3) by decide +kernel) (by decide) ?_
      exact e_zret (show decode (mC 171) 17 = .ok (.ireturn, 1) by decide +kernel) rfl (by decide) (z3 p1 p2)
/-- SoulOfficeModel.next()V, from 0 -/
theorem b172_0 (hG : Shp G)
    (m0 : TM d 169 [aR 188] (G, c) (fun r h' => T (d + 1) 172 4 [some (aR 188), none, none, none] (r.toList ++ []) h' Q)) :
    T (d + 1) 172 0 [some (aR 188), none, none, none] [] (G, c) Q := by
  refine e_L (L' := [some (aR 188), none, none, none]) (st' := [aR 188]) (show decode (mC 172) 0 = .ok (.aload_n 0, 1) by decide +kernel) rfl (by show (if 188 = 0 then none else some (_, _)) = _; rw [if_neg (by decide)]) ?_
  exact e_V (as := [aR 188]) (rest := []) (show decode (mC 172) 1 = .ok (.invokevirtual 142, 3) by decide +kernel) (by decide +kernel) (show (decide ((1 : Nat) = mA 169) && decide (169 < q_law)) = true by decide +kernel) rfl (show (0 : Nat) ≤ 8 by decide) (show (1 : Nat) ≤ mL 169 by decide +kernel) rfl (sh_ok hG (by decide +kernel)) m0
/-- SoulOfficeModel.next()V, from 4 -/
theorem b172_4 (hG : Shp G) {u0 x1 : Int}
    (s0 : -2147483648 ≤ u0 ∧ u0 < 2147483648)
    (ex1 : c 188 4 = x1)
    (k2 : (u0 = 32) → T (d + 1) 172 0 [some (aR 188), none, none, none] [] (G, (q_up c 188 4 (x1 + 1))) Q)
    (m3 : (¬ u0 = 32) → TM d 169 [aR 188] (G, c) (fun r h' => T (d + 1) 172 13 [some (aR 188), none, none, none] (r.toList ++ []) h' Q)) :
    T (d + 1) 172 4 [some (aR 188), none, none, none] [aI u0] (G, c) Q := by
  refine e_P (st' := [aI 32, aI u0]) (show decode (mC 172) 4 = .ok (.bipush 32, 2) by decide +kernel) rfl rfl rfl ?_
  refine e_eq2 (t := 18) (show decode (mC 172) 6 = .ok (.if_icmp .eq 12, 3) by decide +kernel) (by decide) s0 (by decide) (fun p1 => ?_) (fun p1 => ?_)
  · refine e_L (L' := [some (aR 188), none, none, none]) (st' := [aR 188]) (show decode (mC 172) 18 = .ok (.aload_n 0, 1) by decide +kernel) rfl (by show (if 188 = 0 then none else some (_, _)) = _; rw [if_neg (by decide)]) ?_
    refine e_P (st' := [aR 188, aR 188]) (show decode (mC 172) 19 = .ok (.dup, 1) by decide +kernel) rfl rfl rfl ?_
    refine e_getIx (show decode (mC 172) 20 = .ok (.getfield 21, 3) by decide +kernel) (show pl 12 21 = some (0, 12, 4, 0) by decide +kernel) (by decide) (sh_ok hG (by decide +kernel)) ex1 ?_
    refine e_P (st' := [aI 1, aI x1, aR 188]) (show decode (mC 172) 23 = .ok (.iconst 1, 1) by decide +kernel) rfl rfl rfl ?_
    refine e_P (st' := [aI (x1 + 1), aR 188]) (show decode (mC 172) 24 = .ok (.iadd, 1) by decide +kernel) rfl rfl rfl ?_
    refine e_putI (show decode (mC 172) 25 = .ok (.putfield 21, 3) by decide +kernel) (show pl 12 21 = some (0, 12, 4, 0) by decide +kernel) (by decide) (sh_ok hG (by decide +kernel)) ?_
    refine e_go (t := 0) (show decode (mC 172) 28 = .ok (.goto (-28), 3) by decide +kernel) (by decide) ?_
    exact (k2 p1)
  · refine e_L (L' := [some (aR 188), none, none, none]) (st' := [aR 188]) (show decode (mC 172) 9 = .ok (.aload_n 0, 1) by decide +kernel) rfl (by show (if 188 = 0 then none else some (_, _)) = _; rw [if_neg (by decide)]) ?_
    exact e_V (as := [aR 188]) (rest := []) (show decode (mC 172) 10 = .ok (.invokevirtual 142, 3) by decide +kernel) (by decide +kernel) (show (decide ((1 : Nat) = mA 169) && decide (169 < q_law)) = true by decide +kernel) rfl (show (0 : Nat) ≤ 8 by decide) (show (1 : Nat) ≤ mL 169 by decide +kernel) rfl (sh_ok hG (by decide +kernel)) (m3 p1)
/-- SoulOfficeModel.next()V, from 13 -/
theorem b172_13 (hG : Shp G) {u0 x1 x2 x3 x4 x5 x6 x7 : Int}
    (s0 : -2147483648 ≤ u0 ∧ u0 < 2147483648)
    (ex1 : c 188 4 = x1)
    (ex2 : (q_up (q_up c 188 12 x1) 188 13 0) 188 3 = x2)
    (ex3 : (q_up (q_up c 188 12 x1) 188 13 0) 188 5 = x3)
    (s4 : (¬ u0 = 10) → -2147483648 ≤ x2 ∧ x2 < 2147483648)
    (s5 : (¬ u0 = 10) → -2147483648 ≤ x3 ∧ x3 < 2147483648)
    (m6 : (¬ u0 = 10) → (x2 ≤ x3) → TM d 169 [aR 188] (G, (q_up (q_up c 188 12 x1) 188 13 0)) (fun r h' => T (d + 1) 172 84 [some (aR 188), none, none, none] (r.toList ++ []) h' Q))
    (ex4 : (q_up (q_up c 188 12 x1) 188 13 0) 188 4 = x4)
    (ex5 : (q_up (q_up c 188 12 x1) 188 13 0) 188 5 = x5)
    (s9 : (¬ u0 = 10) → (x3 < x2) → -2147483648 ≤ x4 ∧ x4 < 2147483648)
    (s10 : (¬ u0 = 10) → (x3 < x2) → -2147483648 ≤ x5 ∧ x5 < 2147483648)
    (m11 : (¬ u0 = 10) → (x3 < x2) → (x4 < x5) → TM d 169 [aR 188] (G, (q_up (q_up c 188 12 x1) 188 13 0)) (fun r h' => T (d + 1) 172 84 [some (aR 188), none, none, none] (r.toList ++ []) h' Q))
    (ex6 : (q_up (q_up c 188 12 x1) 188 13 0) 188 5 = x6)
    (z13 : (¬ u0 = 10) → (x3 < x2) → (x5 ≤ x4) → Q (.inl none) (G, (q_up (q_up (q_up (q_up c 188 12 x1) 188 13 0) 188 12 x6) 188 11 4)))
    (ex7 : c 188 4 = x7)
    (k15 : (u0 = 10) → T (d + 1) 172 0 [some (aR 188), none, none, none] [] (G, (q_up c 188 4 (x7 + 1))) Q) :
    T (d + 1) 172 13 [some (aR 188), none, none, none] [aI u0] (G, c) Q := by
  refine e_P (st' := [aI 10, aI u0]) (show decode (mC 172) 13 = .ok (.bipush 10, 2) by decide +kernel) rfl rfl rfl ?_
  refine e_ne2 (t := 31) (show decode (mC 172) 15 = .ok (.if_icmp .ne 16, 3) by decide +kernel) (by decide) s0 (by decide) (fun p1 => ?_) (fun p1 => ?_)
  · refine e_L (L' := [some (aR 188), none, none, none]) (st' := [aR 188]) (show decode (mC 172) 31 = .ok (.aload_n 0, 1) by decide +kernel) rfl (by show (if 188 = 0 then none else some (_, _)) = _; rw [if_neg (by decide)]) ?_
    refine e_L (L' := [some (aR 188), none, none, none]) (st' := [aR 188, aR 188]) (show decode (mC 172) 32 = .ok (.aload_n 0, 1) by decide +kernel) rfl (by show (if 188 = 0 then none else some (_, _)) = _; rw [if_neg (by decide)]) ?_
    refine e_getIx (show decode (mC 172) 33 = .ok (.getfield 21, 3) by decide +kernel) (show pl 12 21 = some (0, 12, 4, 0) by decide +kernel) (by decide) (sh_ok hG (by decide +kernel)) ex1 ?_
    refine e_putI (show decode (mC 172) 36 = .ok (.putfield 146, 3) by decide +kernel) (show pl 12 146 = some (0, 12, 12, 0) by decide +kernel) (by decide) (sh_ok hG (by decide +kernel)) ?_
    refine e_L (L' := [some (aR 188), none, none, none]) (st' := [aR 188]) (show decode (mC 172) 39 = .ok (.aload_n 0, 1) by decide +kernel) rfl (by show (if 188 = 0 then none else some (_, _)) = _; rw [if_neg (by decide)]) ?_
    refine e_P (st' := [aI 0, aR 188]) (show decode (mC 172) 40 = .ok (.iconst 0, 1) by decide +kernel) rfl rfl rfl ?_
    refine e_putI (show decode (mC 172) 41 = .ok (.putfield 149, 3) by decide +kernel) (show pl 12 149 = some (0, 12, 13, 0) by decide +kernel) (by decide) (sh_ok hG (by decide +kernel)) ?_
    refine e_L (L' := [some (aR 188), none, none, none]) (st' := [aR 188]) (show decode (mC 172) 44 = .ok (.aload_n 0, 1) by decide +kernel) rfl (by show (if 188 = 0 then none else some (_, _)) = _; rw [if_neg (by decide)]) ?_
    refine e_getIx (show decode (mC 172) 45 = .ok (.getfield 18, 3) by decide +kernel) (show pl 12 18 = some (0, 12, 3, 0) by decide +kernel) (by decide) (sh_ok hG (by decide +kernel)) ex2 ?_
    refine e_L (L' := [some (aR 188), none, none, none]) (st' := [aR 188, aI x2]) (show decode (mC 172) 48 = .ok (.aload_n 0, 1) by decide +kernel) rfl (by show (if 188 = 0 then none else some (_, _)) = _; rw [if_neg (by decide)]) ?_
    refine e_getIx (show decode (mC 172) 49 = .ok (.getfield 24, 3) by decide +kernel) (show pl 12 24 = some (0, 12, 5, 0) by decide +kernel) (by decide) (sh_ok hG (by decide +kernel)) ex3 ?_
    refine e_le2 (t := 80) (show decode (mC 172) 52 = .ok (.if_icmp .le 28, 3) by decide +kernel) (by decide) (s4 p1) (s5 p1) (fun p2 => ?_) (fun p2 => ?_)
    · refine e_L (L' := [some (aR 188), none, none, none]) (st' := [aR 188]) (show decode (mC 172) 80 = .ok (.aload_n 0, 1) by decide +kernel) rfl (by show (if 188 = 0 then none else some (_, _)) = _; rw [if_neg (by decide)]) ?_
      exact e_V (as := [aR 188]) (rest := []) (show decode (mC 172) 81 = .ok (.invokevirtual 142, 3) by decide +kernel) (by decide +kernel) (show (decide ((1 : Nat) = mA 169) && decide (169 < q_law)) = true by decide +kernel) rfl (show (0 : Nat) ≤ 8 by decide) (show (1 : Nat) ≤ mL 169 by decide +kernel) rfl (sh_ok hG (by decide +kernel)) (m6 p1 p2)
    · refine e_L (L' := [some (aR 188), none, none, none]) (st' := [aR 188]) (show decode (mC 172) 55 = .ok (.aload_n 0, 1) by decide +kernel) rfl (by show (if 188 = 0 then none else some (_, _)) = _; rw [if_neg (by decide)]) ?_
      refine e_getIx (show decode (mC 172) 56 = .ok (.getfield 21, 3) by decide +kernel) (show pl 12 21 = some (0, 12, 4, 0) by decide +kernel) (by decide) (sh_ok hG (by decide +kernel)) ex4 ?_
      refine e_L (L' := [some (aR 188), none, none, none]) (st' := [aR 188, aI x4]) (show decode (mC 172) 59 = .ok (.aload_n 0, 1) by decide +kernel) rfl (by show (if 188 = 0 then none else some (_, _)) = _; rw [if_neg (by decide)]) ?_
      refine e_getIx (show decode (mC 172) 60 = .ok (.getfield 24, 3) by decide +kernel) (show pl 12 24 = some (0, 12, 5, 0) by decide +kernel) (by decide) (sh_ok hG (by decide +kernel)) ex5 ?_
      refine e_lt2 (t := 80) (show decode (mC 172) 63 = .ok (.if_icmp .lt 17, 3) by decide +kernel) (by decide) (s9 p1 p2) (s10 p1 p2) (fun p3 => ?_) (fun p3 => ?_)
      · refine e_L (L' := [some (aR 188), none, none, none]) (st' := [aR 188]) (show decode (mC 172) 80 = .ok (.aload_n 0, 1) by decide +kernel) rfl (by show (if 188 = 0 then none else some (_, _)) = _; rw [if_neg (by decide)]) ?_
        exact e_V (as := [aR 188]) (rest := []) (show decode (mC 172) 81 = .ok (.invokevirtual 142, 3) by decide +kernel) (by decide +kernel) (show (decide ((1 : Nat) = mA 169) && decide (169 < q_law)) = true by decide +kernel) rfl (show (0 : Nat) ≤ 8 by decide) (show (1 : Nat) ≤ mL 169 by decide +kernel) rfl (sh_ok hG (by decide +kernel)) (m11 p1 p2 p3)
      · refine e_L (L' := [some (aR 188), none, none, none]) (st' := [aR 188]) (show decode (mC 172) 66 = .ok (.aload_n 0, 1) by decide +kernel) rfl (by show (if 188 = 0 then none else some (_, _)) = _; rw [if_neg (by decide)]) ?_
        refine e_L (L' := [some (aR 188), none, none, none]) (st' := [aR 188, aR 188]) (show decode (mC 172) 67 = .ok (.aload_n 0, 1) by decide +kernel) rfl (by show (if 188 = 0 then none else some (_, _)) = _; rw [if_neg (by decide)]) ?_
        refine e_getIx (show decode (mC 172) 68 = .ok (.getfield 24, 3) by decide +kernel) (show pl 12 24 = some (0, 12, 5, 0) by decide +kernel) (by decide) (sh_ok hG (by decide +kernel)) ex6 ?_
        refine e_putI (show decode (mC 172) 71 = .ok (.putfield 146, 3) by decide +kernel) (show pl 12 146 = some (0, 12, 12, 0) by decide +kernel) (by decide) (sh_ok hG (by decide +kernel)) ?_
        refine e_L (L' := [some (aR 188), none, none, none]) (st' := [aR 188]) (show decode (mC 172) 74 = .ok (.aload_n 0, 1) by decide +kernel) rfl (by show (if 188 = 0 then none else some (_, _)) = _; rw [if_neg (by decide)]) ?_
        refine e_P (st' := [aI 4, aR 188]) (show decode (mC 172) 75 = .ok (.iconst 4, 1) by decide +kernel) rfl rfl rfl ?_
        refine e_putI (show decode (mC 172) 76 = .ok (.putfield 152, 3) by decide +kernel) (show pl 12 152 = some (0, 12, 11, 0) by decide +kernel) (by decide) (sh_ok hG (by decide +kernel)) ?_
        exact e_vret (show decode (mC 172) 79 = .ok (.return_, 1) by decide +kernel) rfl (z13 p1 p2 p3)
  · refine e_L (L' := [some (aR 188), none, none, none]) (st' := [aR 188]) (show decode (mC 172) 18 = .ok (.aload_n 0, 1) by decide +kernel) rfl (by show (if 188 = 0 then none else some (_, _)) = _; rw [if_neg (by decide)]) ?_
    refine e_P (st' := [aR 188, aR 188]) (show decode (mC 172) 19 = .ok (.dup, 1) by decide +kernel) rfl rfl rfl ?_
    refine e_getIx (show decode (mC 172) 20 = .ok (.getfield 21, 3) by decide +kernel) (show pl 12 21 = some (0, 12, 4, 0) by decide +kernel) (by decide) (sh_ok hG (by decide +kernel)) ex7 ?_
    refine e_P (st' := [aI 1, aI x7, aR 188]) (show decode (mC 172) 23 = .ok (.iconst 1, 1) by decide +kernel) rfl rfl rfl ?_
    refine e_P (st' := [aI (x7 + 1), aR 188]) (show decode (mC 172) 24 = .ok (.iadd, 1) by decide +kernel) rfl rfl rfl ?_
    refine e_putI (show decode (mC 172) 25 = .ok (.putfield 21, 3) by decide +kernel) (show pl 12 21 = some (0, 12, 4, 0) by decide +kernel) (by decide) (sh_ok hG (by decide +kernel)) ?_
    refine e_go (t := 0) (show decode (mC 172) 28 = .ok (.goto (-28), 3) by decide +kernel) (by decide) ?_
    exact (k15 p1)
/-- SoulOfficeModel.next()V, from 84 -/
theorem b172_84 (hG : Shp G) {u0 : Int}
    (s0 : -2147483648 ≤ u0 ∧ u0 < 2147483648)
    (m1 : (0 ≤ u0) → TM d 170 [aI u0] (G, c) (fun r h' => T (d + 1) 172 99 [some (aR 188), some (aI u0), none, none] (r.toList ++ []) h' Q))
    (z2 : (u0 < 0) → Q (.inl none) (G, (q_up c 188 11 0))) :
    T (d + 1) 172 84 [some (aR 188), none, none, none] [aI u0] (G, c) Q := by
  refine e_L (L' := [some (aR 188), some (aI u0), none, none]) (st' := []) (show decode (mC 172) 84 = .ok (.istore_n 1, 1) by decide +kernel) rfl rfl ?_
  refine e_L (L' := [some (aR 188), some (aI u0), none, none]) (st' := [aI u0]) (show decode (mC 172) 85 = .ok (.iload_n 1, 1) by decide +kernel) rfl rfl ?_
  refine e_ge1 (t := 95) (show decode (mC 172) 86 = .ok (.ifCond .ge 9, 3) by decide +kernel) (by decide) s0 (fun p1 => ?_) (fun p1 => ?_)
  · refine e_L (L' := [some (aR 188), some (aI u0), none, none]) (st' := [aI u0]) (show decode (mC 172) 95 = .ok (.iload_n 1, 1) by decide +kernel) rfl rfl ?_
    exact e_S (as := [aI u0]) (rest := []) (show decode (mC 172) 96 = .ok (.invokestatic 155, 3) by decide +kernel) (by decide +kernel) (show (decide ((1 : Nat) = mA 170) && decide (170 < q_law)) = true by decide +kernel) rfl (show (0 : Nat) ≤ 8 by decide) (show (1 : Nat) ≤ mL 170 by decide +kernel) (m1 p1)
  · refine e_L (L' := [some (aR 188), some (aI u0), none, none]) (st' := [aR 188]) (show decode (mC 172) 89 = .ok (.aload_n 0, 1) by decide +kernel) rfl (by show (if 188 = 0 then none else some (_, _)) = _; rw [if_neg (by decide)]) ?_
    refine e_P (st' := [aI 0, aR 188]) (show decode (mC 172) 90 = .ok (.iconst 0, 1) by decide +kernel) rfl rfl rfl ?_
    refine e_putI (show decode (mC 172) 91 = .ok (.putfield 152, 3) by decide +kernel) (show pl 12 152 = some (0, 12, 11, 0) by decide +kernel) (by decide) (sh_ok hG (by decide +kernel)) ?_
    exact e_vret (show decode (mC 172) 94 = .ok (.return_, 1) by decide +kernel) rfl (z2 p1)
/-- SoulOfficeModel.next()V, from 99 -/
theorem b172_99 (hG : Shp G) {v1 u0 : Int} (hQ : ∀ o o' h', q_eqo o o' → Q o h' → Q o' h')
    (s0 : -2147483648 ≤ u0 ∧ u0 < 2147483648)
    (m1 : (¬ u0 = 0) → TM d 170 [aI v1] (G, c) (fun r h' => T (d + 1) 172 168 [some (aR 188), none, none, none] (r.toList ++ []) h' Q))
    (m2 : (u0 = 0) → TM d 171 [aI v1] (G, c) (fun r h' => T (d + 1) 172 106 [some (aR 188), some (aI v1), none, none] (r.toList ++ []) h' Q)) :
    T (d + 1) 172 99 [some (aR 188), some (aI v1), none, none] [aI u0] (G, c) Q := by
  refine e_ne1 (t := 164) (show decode (mC 172) 99 = .ok (.ifCond .ne 65, 3) by decide +kernel) (by decide) s0 (fun p1 => ?_) (fun p1 => ?_)
  · refine e_L (L' := [some (aR 188), some (aI v1), none, none]) (st' := [aI v1]) (show decode (mC 172) 164 = .ok (.iload_n 1, 1) by decide +kernel) rfl rfl ?_
    exact e_S (as := [aI v1]) (rest := []) (show decode (mC 172) 165 = .ok (.invokestatic 155, 3) by decide +kernel) (by decide +kernel) (show (decide ((1 : Nat) = mA 170) && decide (170 < q_law)) = true by decide +kernel) rfl (show (0 : Nat) ≤ 8 by decide) (show (1 : Nat) ≤ mL 170 by decide +kernel) (tm_le hQ (leS (leN (leS (leS leE)))) (m1 p1))
  · refine e_L (L' := [some (aR 188), some (aI v1), none, none]) (st' := [aI v1]) (show decode (mC 172) 102 = .ok (.iload_n 1, 1) by decide +kernel) rfl rfl ?_
    exact e_S (as := [aI v1]) (rest := []) (show decode (mC 172) 103 = .ok (.invokestatic 159, 3) by decide +kernel) (by decide +kernel) (show (decide ((1 : Nat) = mA 171) && decide (171 < q_law)) = true by decide +kernel) rfl (show (0 : Nat) ≤ 8 by decide) (show (1 : Nat) ≤ mL 171 by decide +kernel) (m2 p1)
/-- SoulOfficeModel.next()V, from 106 -/
theorem b172_106 (hG : Shp G) {v1 u0 x1 x2 x3 x4 x5 x6 : Int} (hQ : ∀ o o' h', q_eqo o o' → Q o h' → Q o' h')
    (s0 : -2147483648 ≤ u0 ∧ u0 < 2147483648)
    (m1 : (¬ u0 = 0) → TM d 170 [aI v1] (G, c) (fun r h' => T (d + 1) 172 168 [some (aR 188), none, none, none] (r.toList ++ []) h' Q))
    (s2 : (u0 = 0) → -2147483648 ≤ v1 ∧ v1 < 2147483648)
    (ex1 : (q_up (q_up c 188 11 3) 188 14 v1) 188 4 = x1)
    (z4 : (u0 = 0) → (v1 = 59) → Q (.inl none) (G, (q_up (q_up (q_up c 188 11 3) 188 14 v1) 188 4 (x1 + 1))))
    (ex2 : (q_up (q_up c 188 11 3) 188 14 v1) 188 4 = x2)
    (z6 : (u0 = 0) → (¬ v1 = 59) → (v1 = 40) → Q (.inl none) (G, (q_up (q_up (q_up c 188 11 3) 188 14 v1) 188 4 (x2 + 1))))
    (ex3 : (q_up (q_up c 188 11 3) 188 14 v1) 188 4 = x3)
    (z8 : (u0 = 0) → (¬ v1 = 59) → (¬ v1 = 40) → (v1 = 41) → Q (.inl none) (G, (q_up (q_up (q_up c 188 11 3) 188 14 v1) 188 4 (x3 + 1))))
    (ex4 : (q_up (q_up c 188 11 4) 188 14 v1) 188 4 = x4)
    (z10 : (u0 = 0) → (¬ v1 = 59) → (¬ v1 = 40) → (¬ v1 = 41) → (v1 < 60) → Q (.inl none) (G, (q_up (q_up (q_up c 188 11 4) 188 14 v1) 188 4 (x4 + 1))))
    (ex5 : (q_up (q_up c 188 11 4) 188 14 v1) 188 4 = x5)
    (z12 : (u0 = 0) → (¬ v1 = 59) → (¬ v1 = 40) → (¬ v1 = 41) → (60 ≤ v1) → (62 < v1) → Q (.inl none) (G, (q_up (q_up (q_up c 188 11 4) 188 14 v1) 188 4 (x5 + 1))))
    (ex6 : (q_up (q_up c 188 11 3) 188 14 v1) 188 4 = x6)
    (z14 : (u0 = 0) → (¬ v1 = 59) → (¬ v1 = 40) → (¬ v1 = 41) → (60 ≤ v1) → (v1 ≤ 62) → Q (.inl none) (G, (q_up (q_up (q_up c 188 11 3) 188 14 v1) 188 4 (x6 + 1)))) :
    T (d + 1) 172 106 [some (aR 188), some (aI v1), none, none] [aI u0] (G, c) Q := by
  refine e_ne1 (t := 164) (show decode (mC 172) 106 = .ok (.ifCond .ne 58, 3) by decide +kernel) (by decide) s0 (fun p1 => ?_) (fun p1 => ?_)
  · refine e_L (L' := [some (aR 188), some (aI v1), none, none]) (st' := [aI v1]) (show decode (mC 172) 164 = .ok (.iload_n 1, 1) by decide +kernel) rfl rfl ?_
    exact e_S (as := [aI v1]) (rest := []) (show decode (mC 172) 165 = .ok (.invokestatic 155, 3) by decide +kernel) (by decide +kernel) (show (decide ((1 : Nat) = mA 170) && decide (170 < q_law)) = true by decide +kernel) rfl (show (0 : Nat) ≤ 8 by decide) (show (1 : Nat) ≤ mL 170 by decide +kernel) (tm_le hQ (leS (leN (leS (leS leE)))) (m1 p1))
  · refine e_L (L' := [some (aR 188), some (aI v1), none, none]) (st' := [aR 188]) (show decode (mC 172) 109 = .ok (.aload_n 0, 1) by decide +kernel) rfl (by show (if 188 = 0 then none else some (_, _)) = _; rw [if_neg (by decide)]) ?_
    refine e_L (L' := [some (aR 188), some (aI v1), none, none]) (st' := [aI v1, aR 188]) (show decode (mC 172) 110 = .ok (.iload_n 1, 1) by decide +kernel) rfl rfl ?_
    refine e_P (st' := [aI 59, aI v1, aR 188]) (show decode (mC 172) 111 = .ok (.bipush 59, 2) by decide +kernel) rfl rfl rfl ?_
    refine e_eq2 (t := 140) (show decode (mC 172) 113 = .ok (.if_icmp .eq 27, 3) by decide +kernel) (by decide) (s2 p1) (by decide) (fun p2 => ?_) (fun p2 => ?_)
    · refine e_P (st' := [aI 3, aR 188]) (show decode (mC 172) 140 = .ok (.iconst 3, 1) by decide +kernel) rfl rfl rfl ?_
      refine e_go (t := 145) (show decode (mC 172) 141 = .ok (.goto 4, 3) by decide +kernel) (by decide) ?_
      refine e_putI (show decode (mC 172) 145 = .ok (.putfield 152, 3) by decide +kernel) (show pl 12 152 = some (0, 12, 11, 0) by decide +kernel) (by decide) (sh_ok hG (by decide +kernel)) ?_
      refine e_L (L' := [some (aR 188), some (aI v1), none, none]) (st' := [aR 188]) (show decode (mC 172) 148 = .ok (.aload_n 0, 1) by decide +kernel) rfl (by show (if 188 = 0 then none else some (_, _)) = _; rw [if_neg (by decide)]) ?_
      refine e_L (L' := [some (aR 188), some (aI v1), none, none]) (st' := [aI v1, aR 188]) (show decode (mC 172) 149 = .ok (.iload_n 1, 1) by decide +kernel) rfl rfl ?_
      refine e_putI (show decode (mC 172) 150 = .ok (.putfield 162, 3) by decide +kernel) (show pl 12 162 = some (0, 12, 14, 0) by decide +kernel) (by decide) (sh_ok hG (by decide +kernel)) ?_
      refine e_L (L' := [some (aR 188), some (aI v1), none, none]) (st' := [aR 188]) (show decode (mC 172) 153 = .ok (.aload_n 0, 1) by decide +kernel) rfl (by show (if 188 = 0 then none else some (_, _)) = _; rw [if_neg (by decide)]) ?_
      refine e_P (st' := [aR 188, aR 188]) (show decode (mC 172) 154 = .ok (.dup, 1) by decide +kernel) rfl rfl rfl ?_
      refine e_getIx (show decode (mC 172) 155 = .ok (.getfield 21, 3) by decide +kernel) (show pl 12 21 = some (0, 12, 4, 0) by decide +kernel) (by decide) (sh_ok hG (by decide +kernel)) ex1 ?_
      refine e_P (st' := [aI 1, aI x1, aR 188]) (show decode (mC 172) 158 = .ok (.iconst 1, 1) by decide +kernel) rfl rfl rfl ?_
      refine e_P (st' := [aI (x1 + 1), aR 188]) (show decode (mC 172) 159 = .ok (.iadd, 1) by decide +kernel) rfl rfl rfl ?_
      refine e_putI (show decode (mC 172) 160 = .ok (.putfield 21, 3) by decide +kernel) (show pl 12 21 = some (0, 12, 4, 0) by decide +kernel) (by decide) (sh_ok hG (by decide +kernel)) ?_
      exact e_vret (show decode (mC 172) 163 = .ok (.return_, 1) by decide +kernel) rfl (z4 p1 p2)
    · refine e_L (L' := [some (aR 188), some (aI v1), none, none]) (st' := [aI v1, aR 188]) (show decode (mC 172) 116 = .ok (.iload_n 1, 1) by decide +kernel) rfl rfl ?_
      refine e_P (st' := [aI 40, aI v1, aR 188]) (show decode (mC 172) 117 = .ok (.bipush 40, 2) by decide +kernel) rfl rfl rfl ?_
      refine e_eq2 (t := 140) (show decode (mC 172) 119 = .ok (.if_icmp .eq 21, 3) by decide +kernel) (by decide) (s2 p1) (by decide) (fun p3 => ?_) (fun p3 => ?_)
      · refine e_P (st' := [aI 3, aR 188]) (show decode (mC 172) 140 = .ok (.iconst 3, 1) by decide +kernel) rfl rfl rfl ?_
        refine e_go (t := 145) (show decode (mC 172) 141 = .ok (.goto 4, 3) by decide +kernel) (by decide) ?_
        refine e_putI (show decode (mC 172) 145 = .ok (.putfield 152, 3) by decide +kernel) (show pl 12 152 = some (0, 12, 11, 0) by decide +kernel) (by decide) (sh_ok hG (by decide +kernel)) ?_
        refine e_L (L' := [some (aR 188), some (aI v1), none, none]) (st' := [aR 188]) (show decode (mC 172) 148 = .ok (.aload_n 0, 1) by decide +kernel) rfl (by show (if 188 = 0 then none else some (_, _)) = _; rw [if_neg (by decide)]) ?_
        refine e_L (L' := [some (aR 188), some (aI v1), none, none]) (st' := [aI v1, aR 188]) (show decode (mC 172) 149 = .ok (.iload_n 1, 1) by decide +kernel) rfl rfl ?_
        refine e_putI (show decode (mC 172) 150 = .ok (.putfield 162, 3) by decide +kernel) (show pl 12 162 = some (0, 12, 14, 0) by decide +kernel) (by decide) (sh_ok hG (by decide +kernel)) ?_
        refine e_L (L' := [some (aR 188), some (aI v1), none, none]) (st' := [aR 188]) (show decode (mC 172) 153 = .ok (.aload_n 0, 1) by decide +kernel) rfl (by show (if 188 = 0 then none else some (_, _)) = _; rw [if_neg (by decide)]) ?_
        refine e_P (st' := [aR 188, aR 188]) (show decode (mC 172) 154 = .ok (.dup, 1) by decide +kernel) rfl rfl rfl ?_
        refine e_getIx (show decode (mC 172) 155 = .ok (.getfield 21, 3) by decide +kernel) (show pl 12 21 = some (0, 12, 4, 0) by decide +kernel) (by decide) (sh_ok hG (by decide +kernel)) ex2 ?_
        refine e_P (st' := [aI 1, aI x2, aR 188]) (show decode (mC 172) 158 = .ok (.iconst 1, 1) by decide +kernel) rfl rfl rfl ?_
        refine e_P (st' := [aI (x2 + 1), aR 188]) (show decode (mC 172) 159 = .ok (.iadd, 1) by decide +kernel) rfl rfl rfl ?_
        refine e_putI (show decode (mC 172) 160 = .ok (.putfield 21, 3) by decide +kernel) (show pl 12 21 = some (0, 12, 4, 0) by decide +kernel) (by decide) (sh_ok hG (by decide +kernel)) ?_
        exact e_vret (show decode (mC 172) 163 = .ok (.return_, 1) by decide +kernel) rfl (z6 p1 p2 p3)
      · refine e_L (L' := [some (aR 188), some (aI v1), none, none]) (st' := [aI v1, aR 188]) (show decode (mC 172) 122 = .ok (.iload_n 1, 1) by decide +kernel) rfl rfl ?_
        refine e_P (st' := [aI 41, aI v1, aR 188]) (show decode (mC 172) 123 = .ok (.bipush 41, 2) by decide +kernel) rfl rfl rfl ?_
        refine e_eq2 (t := 140) (show decode (mC 172) 125 = .ok (.if_icmp .eq 15, 3) by decide +kernel) (by decide) (s2 p1) (by decide) (fun p4 => ?_) (fun p4 => ?_)
        · refine e_P (st' := [aI 3, aR 188]) (show decode (mC 172) 140 = .ok (.iconst 3, 1) by decide +kernel) rfl rfl rfl ?_
          refine e_go (t := 145) (show decode (mC 172) 141 = .ok (.goto 4, 3) by decide +kernel) (by decide) ?_
          refine e_putI (show decode (mC 172) 145 = .ok (.putfield 152, 3) by decide +kernel) (show pl 12 152 = some (0, 12, 11, 0) by decide +kernel) (by decide) (sh_ok hG (by decide +kernel)) ?_
          refine e_L (L' := [some (aR 188), some (aI v1), none, none]) (st' := [aR 188]) (show decode (mC 172) 148 = .ok (.aload_n 0, 1) by decide +kernel) rfl (by show (if 188 = 0 then none else some (_, _)) = _; rw [if_neg (by decide)]) ?_
          refine e_L (L' := [some (aR 188), some (aI v1), none, none]) (st' := [aI v1, aR 188]) (show decode (mC 172) 149 = .ok (.iload_n 1, 1) by decide +kernel) rfl rfl ?_
          refine e_putI (show decode (mC 172) 150 = .ok (.putfield 162, 3) by decide +kernel) (show pl 12 162 = some (0, 12, 14, 0) by decide +kernel) (by decide) (sh_ok hG (by decide +kernel)) ?_
          refine e_L (L' := [some (aR 188), some (aI v1), none, none]) (st' := [aR 188]) (show decode (mC 172) 153 = .ok (.aload_n 0, 1) by decide +kernel) rfl (by show (if 188 = 0 then none else some (_, _)) = _; rw [if_neg (by decide)]) ?_
          refine e_P (st' := [aR 188, aR 188]) (show decode (mC 172) 154 = .ok (.dup, 1) by decide +kernel) rfl rfl rfl ?_
          refine e_getIx (show decode (mC 172) 155 = .ok (.getfield 21, 3) by decide +kernel) (show pl 12 21 = some (0, 12, 4, 0) by decide +kernel) (by decide) (sh_ok hG (by decide +kernel)) ex3 ?_
          refine e_P (st' := [aI 1, aI x3, aR 188]) (show decode (mC 172) 158 = .ok (.iconst 1, 1) by decide +kernel) rfl rfl rfl ?_
          refine e_P (st' := [aI (x3 + 1), aR 188]) (show decode (mC 172) 159 = .ok (.iadd, 1) by decide +kernel) rfl rfl rfl ?_
          refine e_putI (show decode (mC 172) 160 = .ok (.putfield 21, 3) by decide +kernel) (show pl 12 21 = some (0, 12, 4, 0) by decide +kernel) (by decide) (sh_ok hG (by decide +kernel)) ?_
          exact e_vret (show decode (mC 172) 163 = .ok (.return_, 1) by decide +kernel) rfl (z8 p1 p2 p3 p4)
        · refine e_L (L' := [some (aR 188), some (aI v1), none, none]) (st' := [aI v1, aR 188]) (show decode (mC 172) 128 = .ok (.iload_n 1, 1) by decide +kernel) rfl rfl ?_
          refine e_P (st' := [aI 60, aI v1, aR 188]) (show decode (mC 172) 129 = .ok (.bipush 60, 2) by decide +kernel) rfl rfl rfl ?_
          refine e_lt2 (t := 144) (show decode (mC 172) 131 = .ok (.if_icmp .lt 13, 3) by decide +kernel) (by decide) (s2 p1) (by decide) (fun p5 => ?_) (fun p5 => ?_)
          · refine e_P (st' := [aI 4, aR 188]) (show decode (mC 172) 144 = .ok (.iconst 4, 1) by decide +kernel) rfl rfl rfl ?_
            refine e_putI (show decode (mC 172) 145 = .ok (.putfield 152, 3) by decide +kernel) (show pl 12 152 = some (0, 12, 11, 0) by decide +kernel) (by decide) (sh_ok hG (by decide +kernel)) ?_
            refine e_L (L' := [some (aR 188), some (aI v1), none, none]) (st' := [aR 188]) (show decode (mC 172) 148 = .ok (.aload_n 0, 1) by decide +kernel) rfl (by show (if 188 = 0 then none else some (_, _)) = _; rw [if_neg (by decide)]) ?_
            refine e_L (L' := [some (aR 188), some (aI v1), none, none]) (st' := [aI v1, aR 188]) (show decode (mC 172) 149 = .ok (.iload_n 1, 1) by decide +kernel) rfl rfl ?_
            refine e_putI (show decode (mC 172) 150 = .ok (.putfield 162, 3) by decide +kernel) (show pl 12 162 = some (0, 12, 14, 0) by decide +kernel) (by decide) (sh_ok hG (by decide +kernel)) ?_
            refine e_L (L' := [some (aR 188), some (aI v1), none, none]) (st' := [aR 188]) (show decode (mC 172) 153 = .ok (.aload_n 0, 1) by decide +kernel) rfl (by show (if 188 = 0 then none else some (_, _)) = _; rw [if_neg (by decide)]) ?_
            refine e_P (st' := [aR 188, aR 188]) (show decode (mC 172) 154 = .ok (.dup, 1) by decide +kernel) rfl rfl rfl ?_
            refine e_getIx (show decode (mC 172) 155 = .ok (.getfield 21, 3) by decide +kernel) (show pl 12 21 = some (0, 12, 4, 0) by decide +kernel) (by decide) (sh_ok hG (by decide +kernel)) ex4 ?_
            refine e_P (st' := [aI 1, aI x4, aR 188]) (show decode (mC 172) 158 = .ok (.iconst 1, 1) by decide +kernel) rfl rfl rfl ?_
            refine e_P (st' := [aI (x4 + 1), aR 188]) (show decode (mC 172) 159 = .ok (.iadd, 1) by decide +kernel) rfl rfl rfl ?_
            refine e_putI (show decode (mC 172) 160 = .ok (.putfield 21, 3) by decide +kernel) (show pl 12 21 = some (0, 12, 4, 0) by decide +kernel) (by decide) (sh_ok hG (by decide +kernel)) ?_
            exact e_vret (show decode (mC 172) 163 = .ok (.return_, 1) by decide +kernel) rfl (z10 p1 p2 p3 p4 p5)
          · refine e_L (L' := [some (aR 188), some (aI v1), none, none]) (st' := [aI v1, aR 188]) (show decode (mC 172) 134 = .ok (.iload_n 1, 1) by decide +kernel) rfl rfl ?_
            refine e_P (st' := [aI 62, aI v1, aR 188]) (show decode (mC 172) 135 = .ok (.bipush 62, 2) by decide +kernel) rfl rfl rfl ?_
            refine e_gt2 (t := 144) (show decode (mC 172) 137 = .ok (.if_icmp .gt 7, 3) by decide +kernel) (by decide) (s2 p1) (by decide) (fun p6 => ?_) (fun p6 => ?_)
            · refine e_P (st' := [aI 4, aR 188]) (show decode (mC 172) 144 = .ok (.iconst 4, 1) by decide +kernel) rfl rfl rfl ?_
              refine e_putI (show decode (mC 172) 145 = .ok (.putfield 152, 3) by decide +kernel) (show pl 12 152 = some (0, 12, 11, 0) by decide +kernel) (by decide) (sh_ok hG (by decide +kernel)) ?_
              refine e_L (L' := [some (aR 188), some (aI v1), none, none]) (st' := [aR 188]) (show decode (mC 172) 148 = .ok (.aload_n 0, 1) by decide +kernel) rfl (by show (if 188 = 0 then none else some (_, _)) = _; rw [if_neg (by decide)]) ?_
              refine e_L (L' := [some (aR 188), some (aI v1), none, none]) (st' := [aI v1, aR 188]) (show decode (mC 172) 149 = .ok (.iload_n 1, 1) by decide +kernel) rfl rfl ?_
              refine e_putI (show decode (mC 172) 150 = .ok (.putfield 162, 3) by decide +kernel) (show pl 12 162 = some (0, 12, 14, 0) by decide +kernel) (by decide) (sh_ok hG (by decide +kernel)) ?_
              refine e_L (L' := [some (aR 188), some (aI v1), none, none]) (st' := [aR 188]) (show decode (mC 172) 153 = .ok (.aload_n 0, 1) by decide +kernel) rfl (by show (if 188 = 0 then none else some (_, _)) = _; rw [if_neg (by decide)]) ?_
              refine e_P (st' := [aR 188, aR 188]) (show decode (mC 172) 154 = .ok (.dup, 1) by decide +kernel) rfl rfl rfl ?_
              refine e_getIx (show decode (mC 172) 155 = .ok (.getfield 21, 3) by decide +kernel) (show pl 12 21 = some (0, 12, 4, 0) by decide +kernel) (by decide) (sh_ok hG (by decide +kernel)) ex5 ?_
              refine e_P (st' := [aI 1, aI x5, aR 188]) (show decode (mC 172) 158 = .ok (.iconst 1, 1) by decide +kernel) rfl rfl rfl ?_
              refine e_P (st' := [aI (x5 + 1), aR 188]) (show decode (mC 172) 159 = .ok (.iadd, 1) by decide +kernel) rfl rfl rfl ?_
              refine e_putI (show decode (mC 172) 160 = .ok (.putfield 21, 3) by decide +kernel) (show pl 12 21 = some (0, 12, 4, 0) by decide +kernel) (by decide) (sh_ok hG (by decide +kernel)) ?_
              exact e_vret (show decode (mC 172) 163 = .ok (.return_, 1) by decide +kernel) rfl (z12 p1 p2 p3 p4 p5 p6)
            · refine e_P (st' := [aI 3, aR 188]) (show decode (mC 172) 140 = .ok (.iconst 3, 1) by decide +kernel) rfl rfl rfl ?_
              refine e_go (t := 145) (show decode (mC 172) 141 = .ok (.goto 4, 3) by decide +kernel) (by decide) ?_
              refine e_putI (show decode (mC 172) 145 = .ok (.putfield 152, 3) by decide +kernel) (show pl 12 152 = some (0, 12, 11, 0) by decide +kernel) (by decide) (sh_ok hG (by decide +kernel)) ?_
              refine e_L (L' := [some (aR 188), some (aI v1), none, none]) (st' := [aR 188]) (show decode (mC 172) 148 = .ok (.aload_n 0, 1) by decide +kernel) rfl (by show (if 188 = 0 then none else some (_, _)) = _; rw [if_neg (by decide)]) ?_
              refine e_L (L' := [some (aR 188), some (aI v1), none, none]) (st' := [aI v1, aR 188]) (show decode (mC 172) 149 = .ok (.iload_n 1, 1) by decide +kernel) rfl rfl ?_
              refine e_putI (show decode (mC 172) 150 = .ok (.putfield 162, 3) by decide +kernel) (show pl 12 162 = some (0, 12, 14, 0) by decide +kernel) (by decide) (sh_ok hG (by decide +kernel)) ?_
              refine e_L (L' := [some (aR 188), some (aI v1), none, none]) (st' := [aR 188]) (show decode (mC 172) 153 = .ok (.aload_n 0, 1) by decide +kernel) rfl (by show (if 188 = 0 then none else some (_, _)) = _; rw [if_neg (by decide)]) ?_
              refine e_P (st' := [aR 188, aR 188]) (show decode (mC 172) 154 = .ok (.dup, 1) by decide +kernel) rfl rfl rfl ?_
              refine e_getIx (show decode (mC 172) 155 = .ok (.getfield 21, 3) by decide +kernel) (show pl 12 21 = some (0, 12, 4, 0) by decide +kernel) (by decide) (sh_ok hG (by decide +kernel)) ex6 ?_
              refine e_P (st' := [aI 1, aI x6, aR 188]) (show decode (mC 172) 158 = .ok (.iconst 1, 1) by decide +kernel) rfl rfl rfl ?_
              refine e_P (st' := [aI (x6 + 1), aR 188]) (show decode (mC 172) 159 = .ok (.iadd, 1) by decide +kernel) rfl rfl rfl ?_
              refine e_putI (show decode (mC 172) 160 = .ok (.putfield 21, 3) by decide +kernel) (show pl 12 21 = some (0, 12, 4, 0) by decide +kernel) (by decide) (sh_ok hG (by decide +kernel)) ?_
              exact e_vret (show decode (mC 172) 163 = .ok (.return_, 1) by decide +kernel) rfl (z14 p1 p2 p3 p4 p5 p6)
/-- SoulOfficeModel.next()V, from 168 -/
theorem b172_168 (hG : Shp G) {u0 : Int}
    (k0 : T (d + 1) 172 181 [some (aR 188), none, some (aI u0), some (aI 1)] [] (G, (q_up (q_up c 188 17 0) 188 14 0)) Q) :
    T (d + 1) 172 168 [some (aR 188), none, none, none] [aI u0] (G, c) Q := by
  refine e_L (L' := [some (aR 188), none, some (aI u0), none]) (st' := []) (show decode (mC 172) 168 = .ok (.istore_n 2, 1) by decide +kernel) rfl rfl ?_
  refine e_P (st' := [aI 1]) (show decode (mC 172) 169 = .ok (.iconst 1, 1) by decide +kernel) rfl rfl rfl ?_
  refine e_L (L' := [some (aR 188), none, some (aI u0), some (aI 1)]) (st' := []) (show decode (mC 172) 170 = .ok (.istore_n 3, 1) by decide +kernel) rfl rfl ?_
  refine e_L (L' := [some (aR 188), none, some (aI u0), some (aI 1)]) (st' := [aR 188]) (show decode (mC 172) 171 = .ok (.aload_n 0, 1) by decide +kernel) rfl (by show (if 188 = 0 then none else some (_, _)) = _; rw [if_neg (by decide)]) ?_
  refine e_P (st' := [aL 0, aR 188]) (show decode (mC 172) 172 = .ok (.lconst 0, 1) by decide +kernel) rfl rfl rfl ?_
  refine e_putL (show decode (mC 172) 173 = .ok (.putfield 165, 3) by decide +kernel) (show pl 12 165 = some (0, 12, 17, 0) by decide +kernel) (by decide) (sh_ok hG (by decide +kernel)) ?_
  refine e_L (L' := [some (aR 188), none, some (aI u0), some (aI 1)]) (st' := [aR 188]) (show decode (mC 172) 176 = .ok (.aload_n 0, 1) by decide +kernel) rfl (by show (if 188 = 0 then none else some (_, _)) = _; rw [if_neg (by decide)]) ?_
  refine e_P (st' := [aI 0, aR 188]) (show decode (mC 172) 177 = .ok (.iconst 0, 1) by decide +kernel) rfl rfl rfl ?_
  refine e_putI (show decode (mC 172) 178 = .ok (.putfield 162, 3) by decide +kernel) (show pl 12 162 = some (0, 12, 14, 0) by decide +kernel) (by decide) (sh_ok hG (by decide +kernel)) ?_
  exact k0
/-- SoulOfficeModel.next()V, from 181 -/
theorem b172_181 (hG : Shp G) {v2 v3 : Int}
    (m0 : TM d 169 [aR 188] (G, c) (fun r h' => T (d + 1) 172 185 [some (aR 188), none, some (aI v2), some (aI v3)] (r.toList ++ []) h' Q)) :
    T (d + 1) 172 181 [some (aR 188), none, some (aI v2), some (aI v3)] [] (G, c) Q := by
  refine e_L (L' := [some (aR 188), none, some (aI v2), some (aI v3)]) (st' := [aR 188]) (show decode (mC 172) 181 = .ok (.aload_n 0, 1) by decide +kernel) rfl (by show (if 188 = 0 then none else some (_, _)) = _; rw [if_neg (by decide)]) ?_
  exact e_V (as := [aR 188]) (rest := []) (show decode (mC 172) 182 = .ok (.invokevirtual 142, 3) by decide +kernel) (by decide +kernel) (show (decide ((1 : Nat) = mA 169) && decide (169 < q_law)) = true by decide +kernel) rfl (show (0 : Nat) ≤ 8 by decide) (show (1 : Nat) ≤ mL 169 by decide +kernel) rfl (sh_ok hG (by decide +kernel)) m0
/-- SoulOfficeModel.next()V, from 185 -/
theorem b172_185 (hG : Shp G) {v2 v3 u0 : Int}
    (m0 : TM d 170 [aI u0] (G, c) (fun r h' => T (d + 1) 172 188 [some (aR 188), none, some (aI v2), some (aI v3)] (r.toList ++ []) h' Q)) :
    T (d + 1) 172 185 [some (aR 188), none, some (aI v2), some (aI v3)] [aI u0] (G, c) Q := by
  exact e_S (as := [aI u0]) (rest := []) (show decode (mC 172) 185 = .ok (.invokestatic 155, 3) by decide +kernel) (by decide +kernel) (show (decide ((1 : Nat) = mA 170) && decide (170 < q_law)) = true by decide +kernel) rfl (show (0 : Nat) ≤ 8 by decide) (show (1 : Nat) ≤ mL 170 by decide +kernel) m0
/-- SoulOfficeModel.next()V, from 188 -/
theorem b172_188 (hG : Shp G) {v2 v3 u0 x1 x2 x3 x4 x5 x6 : Int} (hQ : ∀ o o' h', q_eqo o o' → Q o h' → Q o' h')
    (s0 : -2147483648 ≤ u0 ∧ u0 < 2147483648)
    (s1 : (¬ u0 = 0) → -2147483648 ≤ v3 ∧ v3 < 2147483648)
    (ex1 : c 188 13 = x1)
    (s3 : (¬ u0 = 0) → (v3 = 0) → -2147483648 ≤ x1 ∧ x1 < 2147483648)
    (ex2 : c 188 13 = x2)
    (s5 : (¬ u0 = 0) → (v3 = 0) → (7 ≤ x1) → -2147483648 ≤ x2 ∧ x2 < 2147483648)
    (ex3 : c 188 13 = x3)
    (ex4 : (q_up c 188 13 (x3 + 1)) 188 4 = x4)
    (k8 : (¬ u0 = 0) → (v3 = 0) → (7 ≤ x1) → (3 ≤ x2) → T (d + 1) 172 181 [some (aR 188), none, some (aI v2), some (aI 0)] [] (G, (q_up (q_up c 188 13 (x3 + 1)) 188 4 (x4 + 1))) Q)
    (ex5 : c 188 14 = x5)
    (m10 : (¬ u0 = 0) → (v3 = 0) → (7 ≤ x1) → (x2 < 3) → TM d 169 [aR 188] (G, c) (fun r h' => T (d + 1) 172 268 [some (aR 188), none, some (aI v2), some (aI 0)] (r.toList ++ [aI (10 * x5), aR 188]) h' Q))
    (ex6 : c 188 17 = x6)
    (m12 : (¬ u0 = 0) → (v3 = 0) → (x1 < 7) → TM d 169 [aR 188] (G, c) (fun r h' => T (d + 1) 172 243 [some (aR 188), none, some (aI v2), some (aI 0)] (r.toList ++ [aL (q_lshl x6 8), aR 188]) h' Q))
    (m13 : (¬ u0 = 0) → (¬ v3 = 0) → TM d 169 [aR 188] (G, c) (fun r h' => T (d + 1) 172 209 [some (aR 188), none, some (aI v2), none] (r.toList ++ []) h' Q))
    (m14 : (u0 = 0) → TM d 169 [aR 188] (G, c) (fun r h' => T (d + 1) 172 195 [some (aR 188), none, some (aI v2), some (aI v3)] (r.toList ++ []) h' Q)) :
    T (d + 1) 172 188 [some (aR 188), none, some (aI v2), some (aI v3)] [aI u0] (G, c) Q := by
  refine e_ne1 (t := 201) (show decode (mC 172) 188 = .ok (.ifCond .ne 13, 3) by decide +kernel) (by decide) s0 (fun p1 => ?_) (fun p1 => ?_)
  · refine e_L (L' := [some (aR 188), none, some (aI v2), some (aI v3)]) (st' := [aI v3]) (show decode (mC 172) 201 = .ok (.iload_n 3, 1) by decide +kernel) rfl rfl ?_
    refine e_eq1 (t := 220) (show decode (mC 172) 202 = .ok (.ifCond .eq 18, 3) by decide +kernel) (by decide) (s1 p1) (fun p2 => ?_) (fun p2 => ?_)
    · refine e_P (st' := [aI 0]) (show decode (mC 172) 220 = .ok (.iconst 0, 1) by decide +kernel) rfl rfl rfl ?_
      refine e_L (L' := [some (aR 188), none, some (aI v2), some (aI 0)]) (st' := []) (show decode (mC 172) 221 = .ok (.istore_n 3, 1) by decide +kernel) rfl rfl ?_
      refine e_L (L' := [some (aR 188), none, some (aI v2), some (aI 0)]) (st' := [aR 188]) (show decode (mC 172) 222 = .ok (.aload_n 0, 1) by decide +kernel) rfl (by show (if 188 = 0 then none else some (_, _)) = _; rw [if_neg (by decide)]) ?_
      refine e_getIx (show decode (mC 172) 223 = .ok (.getfield 149, 3) by decide +kernel) (show pl 12 149 = some (0, 12, 13, 0) by decide +kernel) (by decide) (sh_ok hG (by decide +kernel)) ex1 ?_
      refine e_P (st' := [aI 7, aI x1]) (show decode (mC 172) 226 = .ok (.bipush 7, 2) by decide +kernel) rfl rfl rfl ?_
      refine e_ge2 (t := 248) (show decode (mC 172) 228 = .ok (.if_icmp .ge 20, 3) by decide +kernel) (by decide) (s3 p1 p2) (by decide) (fun p3 => ?_) (fun p3 => ?_)
      · refine e_L (L' := [some (aR 188), none, some (aI v2), some (aI 0)]) (st' := [aR 188]) (show decode (mC 172) 248 = .ok (.aload_n 0, 1) by decide +kernel) rfl (by show (if 188 = 0 then none else some (_, _)) = _; rw [if_neg (by decide)]) ?_
        refine e_getIx (show decode (mC 172) 249 = .ok (.getfield 149, 3) by decide +kernel) (show pl 12 149 = some (0, 12, 13, 0) by decide +kernel) (by decide) (sh_ok hG (by decide +kernel)) ex2 ?_
        refine e_P (st' := [aI 3, aI x2]) (show decode (mC 172) 252 = .ok (.iconst 3, 1) by decide +kernel) rfl rfl rfl ?_
        refine e_ge2 (t := 275) (show decode (mC 172) 253 = .ok (.if_icmp .ge 22, 3) by decide +kernel) (by decide) (s5 p1 p2 p3) (by decide) (fun p4 => ?_) (fun p4 => ?_)
        · refine e_L (L' := [some (aR 188), none, some (aI v2), some (aI 0)]) (st' := [aR 188]) (show decode (mC 172) 275 = .ok (.aload_n 0, 1) by decide +kernel) rfl (by show (if 188 = 0 then none else some (_, _)) = _; rw [if_neg (by decide)]) ?_
          refine e_P (st' := [aR 188, aR 188]) (show decode (mC 172) 276 = .ok (.dup, 1) by decide +kernel) rfl rfl rfl ?_
          refine e_getIx (show decode (mC 172) 277 = .ok (.getfield 149, 3) by decide +kernel) (show pl 12 149 = some (0, 12, 13, 0) by decide +kernel) (by decide) (sh_ok hG (by decide +kernel)) ex3 ?_
          refine e_P (st' := [aI 1, aI x3, aR 188]) (show decode (mC 172) 280 = .ok (.iconst 1, 1) by decide +kernel) rfl rfl rfl ?_
          refine e_P (st' := [aI (x3 + 1), aR 188]) (show decode (mC 172) 281 = .ok (.iadd, 1) by decide +kernel) rfl rfl rfl ?_
          refine e_putI (show decode (mC 172) 282 = .ok (.putfield 149, 3) by decide +kernel) (show pl 12 149 = some (0, 12, 13, 0) by decide +kernel) (by decide) (sh_ok hG (by decide +kernel)) ?_
          refine e_L (L' := [some (aR 188), none, some (aI v2), some (aI 0)]) (st' := [aR 188]) (show decode (mC 172) 285 = .ok (.aload_n 0, 1) by decide +kernel) rfl (by show (if 188 = 0 then none else some (_, _)) = _; rw [if_neg (by decide)]) ?_
          refine e_P (st' := [aR 188, aR 188]) (show decode (mC 172) 286 = .ok (.dup, 1) by decide +kernel) rfl rfl rfl ?_
          refine e_getIx (show decode (mC 172) 287 = .ok (.getfield 21, 3) by decide +kernel) (show pl 12 21 = some (0, 12, 4, 0) by decide +kernel) (by decide) (sh_ok hG (by decide +kernel)) ex4 ?_
          refine e_P (st' := [aI 1, aI x4, aR 188]) (show decode (mC 172) 290 = .ok (.iconst 1, 1) by decide +kernel) rfl rfl rfl ?_
          refine e_P (st' := [aI (x4 + 1), aR 188]) (show decode (mC 172) 291 = .ok (.iadd, 1) by decide +kernel) rfl rfl rfl ?_
          refine e_putI (show decode (mC 172) 292 = .ok (.putfield 21, 3) by decide +kernel) (show pl 12 21 = some (0, 12, 4, 0) by decide +kernel) (by decide) (sh_ok hG (by decide +kernel)) ?_
          refine e_go (t := 181) (show decode (mC 172) 295 = .ok (.goto (-114), 3) by decide +kernel) (by decide) ?_
          exact (k8 p1 p2 p3 p4)
        · refine e_L (L' := [some (aR 188), none, some (aI v2), some (aI 0)]) (st' := [aR 188]) (show decode (mC 172) 256 = .ok (.aload_n 0, 1) by decide +kernel) rfl (by show (if 188 = 0 then none else some (_, _)) = _; rw [if_neg (by decide)]) ?_
          refine e_P (st' := [aI 10, aR 188]) (show decode (mC 172) 257 = .ok (.bipush 10, 2) by decide +kernel) rfl rfl rfl ?_
          refine e_L (L' := [some (aR 188), none, some (aI v2), some (aI 0)]) (st' := [aR 188, aI 10, aR 188]) (show decode (mC 172) 259 = .ok (.aload_n 0, 1) by decide +kernel) rfl (by show (if 188 = 0 then none else some (_, _)) = _; rw [if_neg (by decide)]) ?_
          refine e_getIx (show decode (mC 172) 260 = .ok (.getfield 162, 3) by decide +kernel) (show pl 12 162 = some (0, 12, 14, 0) by decide +kernel) (by decide) (sh_ok hG (by decide +kernel)) ex5 ?_
          refine e_P (st' := [aI (10 * x5), aR 188]) (show decode (mC 172) 263 = .ok (.imul, 1) by decide +kernel) rfl rfl rfl ?_
          refine e_L (L' := [some (aR 188), none, some (aI v2), some (aI 0)]) (st' := [aR 188, aI (10 * x5), aR 188]) (show decode (mC 172) 264 = .ok (.aload_n 0, 1) by decide +kernel) rfl (by show (if 188 = 0 then none else some (_, _)) = _; rw [if_neg (by decide)]) ?_
          exact e_V (as := [aR 188]) (rest := [aI (10 * x5), aR 188]) (show decode (mC 172) 265 = .ok (.invokevirtual 142, 3) by decide +kernel) (by decide +kernel) (show (decide ((1 : Nat) = mA 169) && decide (169 < q_law)) = true by decide +kernel) rfl (show (2 : Nat) ≤ 8 by decide) (show (1 : Nat) ≤ mL 169 by decide +kernel) rfl (sh_ok hG (by decide +kernel)) (m10 p1 p2 p3 p4)
      · refine e_L (L' := [some (aR 188), none, some (aI v2), some (aI 0)]) (st' := [aR 188]) (show decode (mC 172) 231 = .ok (.aload_n 0, 1) by decide +kernel) rfl (by show (if 188 = 0 then none else some (_, _)) = _; rw [if_neg (by decide)]) ?_
        refine e_L (L' := [some (aR 188), none, some (aI v2), some (aI 0)]) (st' := [aR 188, aR 188]) (show decode (mC 172) 232 = .ok (.aload_n 0, 1) by decide +kernel) rfl (by show (if 188 = 0 then none else some (_, _)) = _; rw [if_neg (by decide)]) ?_
        refine e_getLx (show decode (mC 172) 233 = .ok (.getfield 165, 3) by decide +kernel) (show pl 12 165 = some (0, 12, 17, 0) by decide +kernel) (by decide) (sh_ok hG (by decide +kernel)) ex6 ?_
        refine e_P (st' := [aI 8, aL x6, aR 188]) (show decode (mC 172) 236 = .ok (.bipush 8, 2) by decide +kernel) rfl rfl rfl ?_
        refine e_P (st' := [aL (q_lshl x6 8), aR 188]) (show decode (mC 172) 238 = .ok (.lshl, 1) by decide +kernel) rfl rfl rfl ?_
        refine e_L (L' := [some (aR 188), none, some (aI v2), some (aI 0)]) (st' := [aR 188, aL (q_lshl x6 8), aR 188]) (show decode (mC 172) 239 = .ok (.aload_n 0, 1) by decide +kernel) rfl (by show (if 188 = 0 then none else some (_, _)) = _; rw [if_neg (by decide)]) ?_
        exact e_V (as := [aR 188]) (rest := [aL (q_lshl x6 8), aR 188]) (show decode (mC 172) 240 = .ok (.invokevirtual 142, 3) by decide +kernel) (by decide +kernel) (show (decide ((1 : Nat) = mA 169) && decide (169 < q_law)) = true by decide +kernel) rfl (show (3 : Nat) ≤ 8 by decide) (show (1 : Nat) ≤ mL 169 by decide +kernel) rfl (sh_ok hG (by decide +kernel)) (m12 p1 p2 p3)
    · refine e_L (L' := [some (aR 188), none, some (aI v2), some (aI v3)]) (st' := [aR 188]) (show decode (mC 172) 205 = .ok (.aload_n 0, 1) by decide +kernel) rfl (by show (if 188 = 0 then none else some (_, _)) = _; rw [if_neg (by decide)]) ?_
      exact e_V (as := [aR 188]) (rest := []) (show decode (mC 172) 206 = .ok (.invokevirtual 142, 3) by decide +kernel) (by decide +kernel) (show (decide ((1 : Nat) = mA 169) && decide (169 < q_law)) = true by decide +kernel) rfl (show (0 : Nat) ≤ 8 by decide) (show (1 : Nat) ≤ mL 169 by decide +kernel) rfl (sh_ok hG (by decide +kernel)) (tm_le hQ (leS (leS (leS (leN leE)))) (m13 p1 p2))
  · refine e_L (L' := [some (aR 188), none, some (aI v2), some (aI v3)]) (st' := [aR 188]) (show decode (mC 172) 191 = .ok (.aload_n 0, 1) by decide +kernel) rfl (by show (if 188 = 0 then none else some (_, _)) = _; rw [if_neg (by decide)]) ?_
    exact e_V (as := [aR 188]) (rest := []) (show decode (mC 172) 192 = .ok (.invokevirtual 142, 3) by decide +kernel) (by decide +kernel) (show (decide ((1 : Nat) = mA 169) && decide (169 < q_law)) = true by decide +kernel) rfl (show (0 : Nat) ≤ 8 by decide) (show (1 : Nat) ≤ mL 169 by decide +kernel) rfl (sh_ok hG (by decide +kernel)) (m14 p1)
/-- SoulOfficeModel.next()V, from 195 -/
theorem b172_195 (hG : Shp G) {v2 v3 u0 : Int}
    (m0 : TM d 171 [aI u0] (G, c) (fun r h' => T (d + 1) 172 198 [some (aR 188), none, some (aI v2), some (aI v3)] (r.toList ++ []) h' Q)) :
    T (d + 1) 172 195 [some (aR 188), none, some (aI v2), some (aI v3)] [aI u0] (G, c) Q := by
  exact e_S (as := [aI u0]) (rest := []) (show decode (mC 172) 195 = .ok (.invokestatic 159, 3) by decide +kernel) (by decide +kernel) (show (decide ((1 : Nat) = mA 171) && decide (171 < q_law)) = true by decide +kernel) rfl (show (0 : Nat) ≤ 8 by decide) (show (1 : Nat) ≤ mL 171 by decide +kernel) m0
/-- SoulOfficeModel.next()V, from 198 -/
theorem b172_198 (hG : Shp G) {v2 v3 u0 x1 x2 x3 x4 x5 x6 x7 : Int} (hQ : ∀ o o' h', q_eqo o o' → Q o h' → Q o' h')
    (s0 : -2147483648 ≤ u0 ∧ u0 < 2147483648)
    (s1 : (u0 = 0) → -2147483648 ≤ v3 ∧ v3 < 2147483648)
    (z2 : (u0 = 0) → (v3 = 0) → Q (.inl none) (G, (q_up c 188 11 4)))
    (ex1 : c 188 13 = x1)
    (s4 : (u0 = 0) → (¬ v3 = 0) → -2147483648 ≤ v2 ∧ v2 < 2147483648)
    (s5 : (u0 = 0) → (¬ v3 = 0) → (v2 = 0) → -2147483648 ≤ x1 ∧ x1 < 2147483648)
    (z6 : (u0 = 0) → (¬ v3 = 0) → (v2 = 0) → (x1 ≤ 3) → (v2 = 0) → Q (.inl none) (G, (q_up c 188 11 2)))
    (z7 : (u0 = 0) → (¬ v3 = 0) → (v2 = 0) → (x1 ≤ 3) → (¬ v2 = 0) → Q (.inl none) (G, (q_up c 188 11 1)))
    (z8 : (u0 = 0) → (¬ v3 = 0) → (v2 = 0) → (3 < x1) → Q (.inl none) (G, (q_up c 188 11 4)))
    (s9 : (u0 = 0) → (¬ v3 = 0) → (¬ v2 = 0) → -2147483648 ≤ x1 ∧ x1 < 2147483648)
    (z10 : (u0 = 0) → (¬ v3 = 0) → (¬ v2 = 0) → (x1 ≤ 7) → (v2 = 0) → Q (.inl none) (G, (q_up c 188 11 2)))
    (z11 : (u0 = 0) → (¬ v3 = 0) → (¬ v2 = 0) → (x1 ≤ 7) → (¬ v2 = 0) → Q (.inl none) (G, (q_up c 188 11 1)))
    (z12 : (u0 = 0) → (¬ v3 = 0) → (¬ v2 = 0) → (7 < x1) → Q (.inl none) (G, (q_up c 188 11 4)))
    (s13 : (¬ u0 = 0) → -2147483648 ≤ v3 ∧ v3 < 2147483648)
    (ex2 : c 188 13 = x2)
    (s15 : (¬ u0 = 0) → (v3 = 0) → -2147483648 ≤ x2 ∧ x2 < 2147483648)
    (ex3 : c 188 13 = x3)
    (s17 : (¬ u0 = 0) → (v3 = 0) → (7 ≤ x2) → -2147483648 ≤ x3 ∧ x3 < 2147483648)
    (ex4 : c 188 13 = x4)
    (ex5 : (q_up c 188 13 (x4 + 1)) 188 4 = x5)
    (k20 : (¬ u0 = 0) → (v3 = 0) → (7 ≤ x2) → (3 ≤ x3) → T (d + 1) 172 181 [some (aR 188), none, some (aI v2), some (aI 0)] [] (G, (q_up (q_up c 188 13 (x4 + 1)) 188 4 (x5 + 1))) Q)
    (ex6 : c 188 14 = x6)
    (m22 : (¬ u0 = 0) → (v3 = 0) → (7 ≤ x2) → (x3 < 3) → TM d 169 [aR 188] (G, c) (fun r h' => T (d + 1) 172 268 [some (aR 188), none, some (aI v2), some (aI 0)] (r.toList ++ [aI (10 * x6), aR 188]) h' Q))
    (ex7 : c 188 17 = x7)
    (m24 : (¬ u0 = 0) → (v3 = 0) → (x2 < 7) → TM d 169 [aR 188] (G, c) (fun r h' => T (d + 1) 172 243 [some (aR 188), none, some (aI v2), some (aI 0)] (r.toList ++ [aL (q_lshl x7 8), aR 188]) h' Q))
    (m25 : (¬ u0 = 0) → (¬ v3 = 0) → TM d 169 [aR 188] (G, c) (fun r h' => T (d + 1) 172 209 [some (aR 188), none, some (aI v2), none] (r.toList ++ []) h' Q)) :
    T (d + 1) 172 198 [some (aR 188), none, some (aI v2), some (aI v3)] [aI u0] (G, c) Q := by
  refine e_eq1 (t := 298) (show decode (mC 172) 198 = .ok (.ifCond .eq 100, 3) by decide +kernel) (by decide) s0 (fun p1 => ?_) (fun p1 => ?_)
  · refine e_L (L' := [some (aR 188), none, some (aI v2), some (aI v3)]) (st' := [aR 188]) (show decode (mC 172) 298 = .ok (.aload_n 0, 1) by decide +kernel) rfl (by show (if 188 = 0 then none else some (_, _)) = _; rw [if_neg (by decide)]) ?_
    refine e_L (L' := [some (aR 188), none, some (aI v2), some (aI v3)]) (st' := [aI v3, aR 188]) (show decode (mC 172) 299 = .ok (.iload_n 3, 1) by decide +kernel) rfl rfl ?_
    refine e_eq1 (t := 320) (show decode (mC 172) 300 = .ok (.ifCond .eq 20, 3) by decide +kernel) (by decide) (s1 p1) (fun p2 => ?_) (fun p2 => ?_)
    · refine e_P (st' := [aI 4, aR 188]) (show decode (mC 172) 320 = .ok (.iconst 4, 1) by decide +kernel) rfl rfl rfl ?_
      refine e_go (t := 333) (show decode (mC 172) 321 = .ok (.goto 12, 3) by decide +kernel) (by decide) ?_
      refine e_putI (show decode (mC 172) 333 = .ok (.putfield 152, 3) by decide +kernel) (show pl 12 152 = some (0, 12, 11, 0) by decide +kernel) (by decide) (sh_ok hG (by decide +kernel)) ?_
      exact e_vret (show decode (mC 172) 336 = .ok (.return_, 1) by decide +kernel) rfl (z2 p1 p2)
    · refine e_L (L' := [some (aR 188), none, some (aI v2), some (aI v3)]) (st' := [aR 188, aR 188]) (show decode (mC 172) 303 = .ok (.aload_n 0, 1) by decide +kernel) rfl (by show (if 188 = 0 then none else some (_, _)) = _; rw [if_neg (by decide)]) ?_
      refine e_getIx (show decode (mC 172) 304 = .ok (.getfield 149, 3) by decide +kernel) (show pl 12 149 = some (0, 12, 13, 0) by decide +kernel) (by decide) (sh_ok hG (by decide +kernel)) ex1 ?_
      refine e_L (L' := [some (aR 188), none, some (aI v2), some (aI v3)]) (st' := [aI v2, aI x1, aR 188]) (show decode (mC 172) 307 = .ok (.iload_n 2, 1) by decide +kernel) rfl rfl ?_
      refine e_eq1 (t := 316) (show decode (mC 172) 308 = .ok (.ifCond .eq 8, 3) by decide +kernel) (by decide) (s4 p1 p2) (fun p3 => ?_) (fun p3 => ?_)
      · refine e_P (st' := [aI 3, aI x1, aR 188]) (show decode (mC 172) 316 = .ok (.iconst 3, 1) by decide +kernel) rfl rfl rfl ?_
        refine e_le2 (t := 324) (show decode (mC 172) 317 = .ok (.if_icmp .le 7, 3) by decide +kernel) (by decide) (s5 p1 p2 p3) (by decide) (fun p4 => ?_) (fun p4 => ?_)
        · refine e_L (L' := [some (aR 188), none, some (aI v2), some (aI v3)]) (st' := [aI v2, aR 188]) (show decode (mC 172) 324 = .ok (.iload_n 2, 1) by decide +kernel) rfl rfl ?_
          refine e_eq1 (t := 332) (show decode (mC 172) 325 = .ok (.ifCond .eq 7, 3) by decide +kernel) (by decide) (s4 p1 p2) (fun p5 => ?_) (fun p5 => ?_)
          · refine e_P (st' := [aI 2, aR 188]) (show decode (mC 172) 332 = .ok (.iconst 2, 1) by decide +kernel) rfl rfl rfl ?_
            refine e_putI (show decode (mC 172) 333 = .ok (.putfield 152, 3) by decide +kernel) (show pl 12 152 = some (0, 12, 11, 0) by decide +kernel) (by decide) (sh_ok hG (by decide +kernel)) ?_
            exact e_vret (show decode (mC 172) 336 = .ok (.return_, 1) by decide +kernel) rfl (z6 p1 p2 p3 p4 p5)
          · refine e_P (st' := [aI 1, aR 188]) (show decode (mC 172) 328 = .ok (.iconst 1, 1) by decide +kernel) rfl rfl rfl ?_
            refine e_go (t := 333) (show decode (mC 172) 329 = .ok (.goto 4, 3) by decide +kernel) (by decide) ?_
            refine e_putI (show decode (mC 172) 333 = .ok (.putfield 152, 3) by decide +kernel) (show pl 12 152 = some (0, 12, 11, 0) by decide +kernel) (by decide) (sh_ok hG (by decide +kernel)) ?_
            exact e_vret (show decode (mC 172) 336 = .ok (.return_, 1) by decide +kernel) rfl (z7 p1 p2 p3 p4 p5)
        · refine e_P (st' := [aI 4, aR 188]) (show decode (mC 172) 320 = .ok (.iconst 4, 1) by decide +kernel) rfl rfl rfl ?_
          refine e_go (t := 333) (show decode (mC 172) 321 = .ok (.goto 12, 3) by decide +kernel) (by decide) ?_
          refine e_putI (show decode (mC 172) 333 = .ok (.putfield 152, 3) by decide +kernel) (show pl 12 152 = some (0, 12, 11, 0) by decide +kernel) (by decide) (sh_ok hG (by decide +kernel)) ?_
          exact e_vret (show decode (mC 172) 336 = .ok (.return_, 1) by decide +kernel) rfl (z8 p1 p2 p3 p4)
      · refine e_P (st' := [aI 7, aI x1, aR 188]) (show decode (mC 172) 311 = .ok (.bipush 7, 2) by decide +kernel) rfl rfl rfl ?_
        refine e_go (t := 317) (show decode (mC 172) 313 = .ok (.goto 4, 3) by decide +kernel) (by decide) ?_
        refine e_le2 (t := 324) (show decode (mC 172) 317 = .ok (.if_icmp .le 7, 3) by decide +kernel) (by decide) (s9 p1 p2 p3) (by decide) (fun p4 => ?_) (fun p4 => ?_)
        · refine e_L (L' := [some (aR 188), none, some (aI v2), some (aI v3)]) (st' := [aI v2, aR 188]) (show decode (mC 172) 324 = .ok (.iload_n 2, 1) by decide +kernel) rfl rfl ?_
          refine e_eq1 (t := 332) (show decode (mC 172) 325 = .ok (.ifCond .eq 7, 3) by decide +kernel) (by decide) (s4 p1 p2) (fun p5 => ?_) (fun p5 => ?_)
          · refine e_P (st' := [aI 2, aR 188]) (show decode (mC 172) 332 = .ok (.iconst 2, 1) by decide +kernel) rfl rfl rfl ?_
            refine e_putI (show decode (mC 172) 333 = .ok (.putfield 152, 3) by decide +kernel) (show pl 12 152 = some (0, 12, 11, 0) by decide +kernel) (by decide) (sh_ok hG (by decide +kernel)) ?_
            exact e_vret (show decode (mC 172) 336 = .ok (.return_, 1) by decide +kernel) rfl (z10 p1 p2 p3 p4 p5)
          · refine e_P (st' := [aI 1, aR 188]) (show decode (mC 172) 328 = .ok (.iconst 1, 1) by decide +kernel) rfl rfl rfl ?_
            refine e_go (t := 333) (show decode (mC 172) 329 = .ok (.goto 4, 3) by decide +kernel) (by decide) ?_
            refine e_putI (show decode (mC 172) 333 = .ok (.putfield 152, 3) by decide +kernel) (show pl 12 152 = some (0, 12, 11, 0) by decide +kernel) (by decide) (sh_ok hG (by decide +kernel)) ?_
            exact e_vret (show decode (mC 172) 336 = .ok (.return_, 1) by decide +kernel) rfl (z11 p1 p2 p3 p4 p5)
        · refine e_P (st' := [aI 4, aR 188]) (show decode (mC 172) 320 = .ok (.iconst 4, 1) by decide +kernel) rfl rfl rfl ?_
          refine e_go (t := 333) (show decode (mC 172) 321 = .ok (.goto 12, 3) by decide +kernel) (by decide) ?_
          refine e_putI (show decode (mC 172) 333 = .ok (.putfield 152, 3) by decide +kernel) (show pl 12 152 = some (0, 12, 11, 0) by decide +kernel) (by decide) (sh_ok hG (by decide +kernel)) ?_
          exact e_vret (show decode (mC 172) 336 = .ok (.return_, 1) by decide +kernel) rfl (z12 p1 p2 p3 p4)
  · refine e_L (L' := [some (aR 188), none, some (aI v2), some (aI v3)]) (st' := [aI v3]) (show decode (mC 172) 201 = .ok (.iload_n 3, 1) by decide +kernel) rfl rfl ?_
    refine e_eq1 (t := 220) (show decode (mC 172) 202 = .ok (.ifCond .eq 18, 3) by decide +kernel) (by decide) (s13 p1) (fun p2 => ?_) (fun p2 => ?_)
    · refine e_P (st' := [aI 0]) (show decode (mC 172) 220 = .ok (.iconst 0, 1) by decide +kernel) rfl rfl rfl ?_
      refine e_L (L' := [some (aR 188), none, some (aI v2), some (aI 0)]) (st' := []) (show decode (mC 172) 221 = .ok (.istore_n 3, 1) by decide +kernel) rfl rfl ?_
      refine e_L (L' := [some (aR 188), none, some (aI v2), some (aI 0)]) (st' := [aR 188]) (show decode (mC 172) 222 = .ok (.aload_n 0, 1) by decide +kernel) rfl (by show (if 188 = 0 then none else some (_, _)) = _; rw [if_neg (by decide)]) ?_
      refine e_getIx (show decode (mC 172) 223 = .ok (.getfield 149, 3) by decide +kernel) (show pl 12 149 = some (0, 12, 13, 0) by decide +kernel) (by decide) (sh_ok hG (by decide +kernel)) ex2 ?_
      refine e_P (st' := [aI 7, aI x2]) (show decode (mC 172) 226 = .ok (.bipush 7, 2) by decide +kernel) rfl rfl rfl ?_
      refine e_ge2 (t := 248) (show decode (mC 172) 228 = .ok (.if_icmp .ge 20, 3) by decide +kernel) (by decide) (s15 p1 p2) (by decide) (fun p3 => ?_) (fun p3 => ?_)
      · refine e_L (L' := [some (aR 188), none, some (aI v2), some (aI 0)]) (st' := [aR 188]) (show decode (mC 172) 248 = .ok (.aload_n 0, 1) by decide +kernel) rfl (by show (if 188 = 0 then none else some (_, _)) = _; rw [if_neg (by decide)]) ?_
        refine e_getIx (show decode (mC 172) 249 = .ok (.getfield 149, 3) by decide +kernel) (show pl 12 149 = some (0, 12, 13, 0) by decide +kernel) (by decide) (sh_ok hG (by decide +kernel)) ex3 ?_
        refine e_P (st' := [aI 3, aI x3]) (show decode (mC 172) 252 = .ok (.iconst 3, 1) by decide +kernel) rfl rfl rfl ?_
        refine e_ge2 (t := 275) (show decode (mC 172) 253 = .ok (.if_icmp .ge 22, 3) by decide +kernel) (by decide) (s17 p1 p2 p3) (by decide) (fun p4 => ?_) (fun p4 => ?_)
        · refine e_L (L' := [some (aR 188), none, some (aI v2), some (aI 0)]) (st' := [aR 188]) (show decode (mC 172) 275 = .ok (.aload_n 0, 1) by decide +kernel) rfl (by show (if 188 = 0 then none else some (_, _)) = _; rw [if_neg (by decide)]) ?_
          refine e_P (st' := [aR 188, aR 188]) (show decode (mC 172) 276 = .ok (.dup, 1) by decide +kernel) rfl rfl rfl ?_
          refine e_getIx (show decode (mC 172) 277 = .ok (.getfield 149, 3) by decide +kernel) (show pl 12 149 = some (0, 12, 13, 0) by decide +kernel) (by decide) (sh_ok hG (by decide +kernel)) ex4 ?_
          refine e_P (st' := [aI 1, aI x4, aR 188]) (show decode (mC 172) 280 = .ok (.iconst 1, 1) by decide +kernel) rfl rfl rfl ?_
          refine e_P (st' := [aI (x4 + 1), aR 188]) (show decode (mC 172) 281 = .ok (.iadd, 1) by decide +kernel) rfl rfl rfl ?_
          refine e_putI (show decode (mC 172) 282 = .ok (.putfield 149, 3) by decide +kernel) (show pl 12 149 = some (0, 12, 13, 0) by decide +kernel) (by decide) (sh_ok hG (by decide +kernel)) ?_
          refine e_L (L' := [some (aR 188), none, some (aI v2), some (aI 0)]) (st' := [aR 188]) (show decode (mC 172) 285 = .ok (.aload_n 0, 1) by decide +kernel) rfl (by show (if 188 = 0 then none else some (_, _)) = _; rw [if_neg (by decide)]) ?_
          refine e_P (st' := [aR 188, aR 188]) (show decode (mC 172) 286 = .ok (.dup, 1) by decide +kernel) rfl rfl rfl ?_
          refine e_getIx (show decode (mC 172) 287 = .ok (.getfield 21, 3) by decide +kernel) (show pl 12 21 = some (0, 12, 4, 0) by decide +kernel) (by decide) (sh_ok hG (by decide +kernel)) ex5 ?_
          refine e_P (st' := [aI 1, aI x5, aR 188]) (show decode (mC 172) 290 = .ok (.iconst 1, 1) by decide +kernel) rfl rfl rfl ?_
          refine e_P (st' := [aI (x5 + 1), aR 188]) (show decode (mC 172) 291 = .ok (.iadd, 1) by decide +kernel) rfl rfl rfl ?_
          refine e_putI (show decode (mC 172) 292 = .ok (.putfield 21, 3) by decide +kernel) (show pl 12 21 = some (0, 12, 4, 0) by decide +kernel) (by decide) (sh_ok hG (by decide +kernel)) ?_
          refine e_go (t := 181) (show decode (mC 172) 295 = .ok (.goto (-114), 3) by decide +kernel) (by decide) ?_
          exact (k20 p1 p2 p3 p4)
        · refine e_L (L' := [some (aR 188), none, some (aI v2), some (aI 0)]) (st' := [aR 188]) (show decode (mC 172) 256 = .ok (.aload_n 0, 1) by decide +kernel) rfl (by show (if 188 = 0 then none else some (_, _)) = _; rw [if_neg (by decide)]) ?_
          refine e_P (st' := [aI 10, aR 188]) (show decode (mC 172) 257 = .ok (.bipush 10, 2) by decide +kernel) rfl rfl rfl ?_
          refine e_L (L' := [some (aR 188), none, some (aI v2), some (aI 0)]) (st' := [aR 188, aI 10, aR 188]) (show decode (mC 172) 259 = .ok (.aload_n 0, 1) by decide +kernel) rfl (by show (if 188 = 0 then none else some (_, _)) = _; rw [if_neg (by decide)]) ?_
          refine e_getIx (show decode (mC 172) 260 = .ok (.getfield 162, 3) by decide +kernel) (show pl 12 162 = some (0, 12, 14, 0) by decide +kernel) (by decide) (sh_ok hG (by decide +kernel)) ex6 ?_
          refine e_P (st' := [aI (10 * x6), aR 188]) (show decode (mC 172) 263 = .ok (.imul, 1) by decide +kernel) rfl rfl rfl ?_
          refine e_L (L' := [some (aR 188), none, some (aI v2), some (aI 0)]) (st' := [aR 188, aI (10 * x6), aR 188]) (show decode (mC 172) 264 = .ok (.aload_n 0, 1) by decide +kernel) rfl (by show (if 188 = 0 then none else some (_, _)) = _; rw [if_neg (by decide)]) ?_
          exact e_V (as := [aR 188]) (rest := [aI (10 * x6), aR 188]) (show decode (mC 172) 265 = .ok (.invokevirtual 142, 3) by decide +kernel) (by decide +kernel) (show (decide ((1 : Nat) = mA 169) && decide (169 < q_law)) = true by decide +kernel) rfl (show (2 : Nat) ≤ 8 by decide) (show (1 : Nat) ≤ mL 169 by decide +kernel) rfl (sh_ok hG (by decide +kernel)) (m22 p1 p2 p3 p4)
      · refine e_L (L' := [some (aR 188), none, some (aI v2), some (aI 0)]) (st' := [aR 188]) (show decode (mC 172) 231 = .ok (.aload_n 0, 1) by decide +kernel) rfl (by show (if 188 = 0 then none else some (_, _)) = _; rw [if_neg (by decide)]) ?_
        refine e_L (L' := [some (aR 188), none, some (aI v2), some (aI 0)]) (st' := [aR 188, aR 188]) (show decode (mC 172) 232 = .ok (.aload_n 0, 1) by decide +kernel) rfl (by show (if 188 = 0 then none else some (_, _)) = _; rw [if_neg (by decide)]) ?_
        refine e_getLx (show decode (mC 172) 233 = .ok (.getfield 165, 3) by decide +kernel) (show pl 12 165 = some (0, 12, 17, 0) by decide +kernel) (by decide) (sh_ok hG (by decide +kernel)) ex7 ?_
        refine e_P (st' := [aI 8, aL x7, aR 188]) (show decode (mC 172) 236 = .ok (.bipush 8, 2) by decide +kernel) rfl rfl rfl ?_
        refine e_P (st' := [aL (q_lshl x7 8), aR 188]) (show decode (mC 172) 238 = .ok (.lshl, 1) by decide +kernel) rfl rfl rfl ?_
        refine e_L (L' := [some (aR 188), none, some (aI v2), some (aI 0)]) (st' := [aR 188, aL (q_lshl x7 8), aR 188]) (show decode (mC 172) 239 = .ok (.aload_n 0, 1) by decide +kernel) rfl (by show (if 188 = 0 then none else some (_, _)) = _; rw [if_neg (by decide)]) ?_
        exact e_V (as := [aR 188]) (rest := [aL (q_lshl x7 8), aR 188]) (show decode (mC 172) 240 = .ok (.invokevirtual 142, 3) by decide +kernel) (by decide +kernel) (show (decide ((1 : Nat) = mA 169) && decide (169 < q_law)) = true by decide +kernel) rfl (show (3 : Nat) ≤ 8 by decide) (show (1 : Nat) ≤ mL 169 by decide +kernel) rfl (sh_ok hG (by decide +kernel)) (m24 p1 p2 p3)
    · refine e_L (L' := [some (aR 188), none, some (aI v2), some (aI v3)]) (st' := [aR 188]) (show decode (mC 172) 205 = .ok (.aload_n 0, 1) by decide +kernel) rfl (by show (if 188 = 0 then none else some (_, _)) = _; rw [if_neg (by decide)]) ?_
      exact e_V (as := [aR 188]) (rest := []) (show decode (mC 172) 206 = .ok (.invokevirtual 142, 3) by decide +kernel) (by decide +kernel) (show (decide ((1 : Nat) = mA 169) && decide (169 < q_law)) = true by decide +kernel) rfl (show (0 : Nat) ≤ 8 by decide) (show (1 : Nat) ≤ mL 169 by decide +kernel) rfl (sh_ok hG (by decide +kernel)) (tm_le hQ (leS (leS (leS (leN leE)))) (m25 p1 p2))
/-- SoulOfficeModel.next()V, from 209 -/
theorem b172_209 (hG : Shp G) {v2 u0 : Int}
    (m0 : TM d 170 [aI u0] (G, c) (fun r h' => T (d + 1) 172 212 [some (aR 188), none, some (aI v2), none] (r.toList ++ []) h' Q)) :
    T (d + 1) 172 209 [some (aR 188), none, some (aI v2), none] [aI u0] (G, c) Q := by
  exact e_S (as := [aI u0]) (rest := []) (show decode (mC 172) 209 = .ok (.invokestatic 155, 3) by decide +kernel) (by decide +kernel) (show (decide ((1 : Nat) = mA 170) && decide (170 < q_law)) = true by decide +kernel) rfl (show (0 : Nat) ≤ 8 by decide) (show (1 : Nat) ≤ mL 170 by decide +kernel) m0
/-- SoulOfficeModel.next()V, from 212 -/
theorem b172_212 (hG : Shp G) {v2 u0 x1 x2 x3 x4 x5 x6 x7 x8 x9 x10 x11 x12 : Int}
    (s0 : -2147483648 ≤ u0 ∧ u0 < 2147483648)
    (s1 : -2147483648 ≤ v2 ∧ v2 < 2147483648)
    (ex1 : c 188 13 = x1)
    (s3 : (¬ u0 = v2) → -2147483648 ≤ x1 ∧ x1 < 2147483648)
    (ex2 : c 188 13 = x2)
    (s5 : (¬ u0 = v2) → (7 ≤ x1) → -2147483648 ≤ x2 ∧ x2 < 2147483648)
    (ex3 : c 188 13 = x3)
    (ex4 : (q_up c 188 13 (x3 + 1)) 188 4 = x4)
    (k8 : (¬ u0 = v2) → (7 ≤ x1) → (3 ≤ x2) → T (d + 1) 172 181 [some (aR 188), none, some (aI v2), some (aI 0)] [] (G, (q_up (q_up c 188 13 (x3 + 1)) 188 4 (x4 + 1))) Q)
    (ex5 : c 188 14 = x5)
    (m10 : (¬ u0 = v2) → (7 ≤ x1) → (x2 < 3) → TM d 169 [aR 188] (G, c) (fun r h' => T (d + 1) 172 268 [some (aR 188), none, some (aI v2), some (aI 0)] (r.toList ++ [aI (10 * x5), aR 188]) h' Q))
    (ex6 : c 188 17 = x6)
    (m12 : (¬ u0 = v2) → (x1 < 7) → TM d 169 [aR 188] (G, c) (fun r h' => T (d + 1) 172 243 [some (aR 188), none, some (aI v2), some (aI 0)] (r.toList ++ [aL (q_lshl x6 8), aR 188]) h' Q))
    (ex7 : c 188 13 = x7)
    (s14 : (u0 = v2) → -2147483648 ≤ x7 ∧ x7 < 2147483648)
    (ex8 : c 188 13 = x8)
    (s16 : (u0 = v2) → (7 ≤ x7) → -2147483648 ≤ x8 ∧ x8 < 2147483648)
    (ex9 : c 188 13 = x9)
    (ex10 : (q_up c 188 13 (x9 + 1)) 188 4 = x10)
    (k19 : (u0 = v2) → (7 ≤ x7) → (3 ≤ x8) → T (d + 1) 172 181 [some (aR 188), none, some (aI v2), some (aI 1)] [] (G, (q_up (q_up c 188 13 (x9 + 1)) 188 4 (x10 + 1))) Q)
    (ex11 : c 188 14 = x11)
    (m21 : (u0 = v2) → (7 ≤ x7) → (x8 < 3) → TM d 169 [aR 188] (G, c) (fun r h' => T (d + 1) 172 268 [some (aR 188), none, some (aI v2), some (aI 1)] (r.toList ++ [aI (10 * x11), aR 188]) h' Q))
    (ex12 : c 188 17 = x12)
    (m23 : (u0 = v2) → (x7 < 7) → TM d 169 [aR 188] (G, c) (fun r h' => T (d + 1) 172 243 [some (aR 188), none, some (aI v2), some (aI 1)] (r.toList ++ [aL (q_lshl x12 8), aR 188]) h' Q)) :
    T (d + 1) 172 212 [some (aR 188), none, some (aI v2), none] [aI u0] (G, c) Q := by
  refine e_L (L' := [some (aR 188), none, some (aI v2), none]) (st' := [aI v2, aI u0]) (show decode (mC 172) 212 = .ok (.iload_n 2, 1) by decide +kernel) rfl rfl ?_
  refine e_ne2 (t := 220) (show decode (mC 172) 213 = .ok (.if_icmp .ne 7, 3) by decide +kernel) (by decide) s0 s1 (fun p1 => ?_) (fun p1 => ?_)
  · refine e_P (st' := [aI 0]) (show decode (mC 172) 220 = .ok (.iconst 0, 1) by decide +kernel) rfl rfl rfl ?_
    refine e_L (L' := [some (aR 188), none, some (aI v2), some (aI 0)]) (st' := []) (show decode (mC 172) 221 = .ok (.istore_n 3, 1) by decide +kernel) rfl rfl ?_
    refine e_L (L' := [some (aR 188), none, some (aI v2), some (aI 0)]) (st' := [aR 188]) (show decode (mC 172) 222 = .ok (.aload_n 0, 1) by decide +kernel) rfl (by show (if 188 = 0 then none else some (_, _)) = _; rw [if_neg (by decide)]) ?_
    refine e_getIx (show decode (mC 172) 223 = .ok (.getfield 149, 3) by decide +kernel) (show pl 12 149 = some (0, 12, 13, 0) by decide +kernel) (by decide) (sh_ok hG (by decide +kernel)) ex1 ?_
    refine e_P (st' := [aI 7, aI x1]) (show decode (mC 172) 226 = .ok (.bipush 7, 2) by decide +kernel) rfl rfl rfl ?_
    refine e_ge2 (t := 248) (show decode (mC 172) 228 = .ok (.if_icmp .ge 20, 3) by decide +kernel) (by decide) (s3 p1) (by decide) (fun p2 => ?_) (fun p2 => ?_)
    · refine e_L (L' := [some (aR 188), none, some (aI v2), some (aI 0)]) (st' := [aR 188]) (show decode (mC 172) 248 = .ok (.aload_n 0, 1) by decide +kernel) rfl (by show (if 188 = 0 then none else some (_, _)) = _; rw [if_neg (by decide)]) ?_
      refine e_getIx (show decode (mC 172) 249 = .ok (.getfield 149, 3) by decide +kernel) (show pl 12 149 = some (0, 12, 13, 0) by decide +kernel) (by decide) (sh_ok hG (by decide +kernel)) ex2 ?_
      refine e_P (st' := [aI 3, aI x2]) (show decode (mC 172) 252 = .ok (.iconst 3, 1) by decide +kernel) rfl rfl rfl ?_
      refine e_ge2 (t := 275) (show decode (mC 172) 253 = .ok (.if_icmp .ge 22, 3) by decide +kernel) (by decide) (s5 p1 p2) (by decide) (fun p3 => ?_) (fun p3 => ?_)
      · refine e_L (L' := [some (aR 188), none, some (aI v2), some (aI 0)]) (st' := [aR 188]) (show decode (mC 172) 275 = .ok (.aload_n 0, 1) by decide +kernel) rfl (by show (if 188 = 0 then none else some (_, _)) = _; rw [if_neg (by decide)]) ?_
        refine e_P (st' := [aR 188, aR 188]) (show decode (mC 172) 276 = .ok (.dup, 1) by decide +kernel) rfl rfl rfl ?_
        refine e_getIx (show decode (mC 172) 277 = .ok (.getfield 149, 3) by decide +kernel) (show pl 12 149 = some (0, 12, 13, 0) by decide +kernel) (by decide) (sh_ok hG (by decide +kernel)) ex3 ?_
        refine e_P (st' := [aI 1, aI x3, aR 188]) (show decode (mC 172) 280 = .ok (.iconst 1, 1) by decide +kernel) rfl rfl rfl ?_
        refine e_P (st' := [aI (x3 + 1), aR 188]) (show decode (mC 172) 281 = .ok (.iadd, 1) by decide +kernel) rfl rfl rfl ?_
        refine e_putI (show decode (mC 172) 282 = .ok (.putfield 149, 3) by decide +kernel) (show pl 12 149 = some (0, 12, 13, 0) by decide +kernel) (by decide) (sh_ok hG (by decide +kernel)) ?_
        refine e_L (L' := [some (aR 188), none, some (aI v2), some (aI 0)]) (st' := [aR 188]) (show decode (mC 172) 285 = .ok (.aload_n 0, 1) by decide +kernel) rfl (by show (if 188 = 0 then none else some (_, _)) = _; rw [if_neg (by decide)]) ?_
        refine e_P (st' := [aR 188, aR 188]) (show decode (mC 172) 286 = .ok (.dup, 1) by decide +kernel) rfl rfl rfl ?_
        refine e_getIx (show decode (mC 172) 287 = .ok (.getfield 21, 3) by decide +kernel) (show pl 12 21 = some (0, 12, 4, 0) by decide +kernel) (by decide) (sh_ok hG (by decide +kernel)) ex4 ?_
        refine e_P (st' := [aI 1, aI x4, aR 188]) (show decode (mC 172) 290 = .ok (.iconst 1, 1) by decide +kernel) rfl rfl rfl ?_
        refine e_P (st' := [aI (x4 + 1), aR 188]) (show decode (mC 172) 291 = .ok (.iadd, 1) by decide +kernel) rfl rfl rfl ?_
        refine e_putI (show decode (mC 172) 292 = .ok (.putfield 21, 3) by decide +kernel) (show pl 12 21 = some (0, 12, 4, 0) by decide +kernel) (by decide) (sh_ok hG (by decide +kernel)) ?_
        refine e_go (t := 181) (show decode (mC 172) 295 = .ok (.goto (-114), 3) by decide +kernel) (by decide) ?_
        exact (k8 p1 p2 p3)
      · refine e_L (L' := [some (aR 188), none, some (aI v2), some (aI 0)]) (st' := [aR 188]) (show decode (mC 172) 256 = .ok (.aload_n 0, 1) by decide +kernel) rfl (by show (if 188 = 0 then none else some (_, _)) = _; rw [if_neg (by decide)]) ?_
        refine e_P (st' := [aI 10, aR 188]) (show decode (mC 172) 257 = .ok (.bipush 10, 2) by decide +kernel) rfl rfl rfl ?_
        refine e_L (L' := [some (aR 188), none, some (aI v2), some (aI 0)]) (st' := [aR 188, aI 10, aR 188]) (show decode (mC 172) 259 = .ok (.aload_n 0, 1) by decide +kernel) rfl (by show (if 188 = 0 then none else some (_, _)) = _; rw [if_neg (by decide)]) ?_
        refine e_getIx (show decode (mC 172) 260 = .ok (.getfield 162, 3) by decide +kernel) (show pl 12 162 = some (0, 12, 14, 0) by decide +kernel) (by decide) (sh_ok hG (by decide +kernel)) ex5 ?_
        refine e_P (st' := [aI (10 * x5), aR 188]) (show decode (mC 172) 263 = .ok (.imul, 1) by decide +kernel) rfl rfl rfl ?_
        refine e_L (L' := [some (aR 188), none, some (aI v2), some (aI 0)]) (st' := [aR 188, aI (10 * x5), aR 188]) (show decode (mC 172) 264 = .ok (.aload_n 0, 1) by decide +kernel) rfl (by show (if 188 = 0 then none else some (_, _)) = _; rw [if_neg (by decide)]) ?_
        exact e_V (as := [aR 188]) (rest := [aI (10 * x5), aR 188]) (show decode (mC 172) 265 = .ok (.invokevirtual 142, 3) by decide +kernel) (by decide +kernel) (show (decide ((1 : Nat) = mA 169) && decide (169 < q_law)) = true by decide +kernel) rfl (show (2 : Nat) ≤ 8 by decide) (show (1 : Nat) ≤ mL 169 by decide +kernel) rfl (sh_ok hG (by decide +kernel)) (m10 p1 p2 p3)
    · refine e_L (L' := [some (aR 188), none, some (aI v2), some (aI 0)]) (st' := [aR 188]) (show decode (mC 172) 231 = .ok (.aload_n 0, 1) by decide +kernel) rfl (by show (if 188 = 0 then none else some (_, _)) = _; rw [if_neg (by decide)]) ?_
      refine e_L (L' := [some (aR 188), none, some (aI v2), some (aI 0)]) (st' := [aR 188, aR 188]) (show decode (mC 172) 232 = .ok (.aload_n 0, 1) by decide +kernel) rfl (by show (if 188 = 0 then none else some (_, _)) = _; rw [if_neg (by decide)]) ?_
      refine e_getLx (show decode (mC 172) 233 = .ok (.getfield 165, 3) by decide +kernel) (show pl 12 165 = some (0, 12, 17, 0) by decide +kernel) (by decide) (sh_ok hG (by decide +kernel)) ex6 ?_
      refine e_P (st' := [aI 8, aL x6, aR 188]) (show decode (mC 172) 236 = .ok (.bipush 8, 2) by decide +kernel) rfl rfl rfl ?_
      refine e_P (st' := [aL (q_lshl x6 8), aR 188]) (show decode (mC 172) 238 = .ok (.lshl, 1) by decide +kernel) rfl rfl rfl ?_
      refine e_L (L' := [some (aR 188), none, some (aI v2), some (aI 0)]) (st' := [aR 188, aL (q_lshl x6 8), aR 188]) (show decode (mC 172) 239 = .ok (.aload_n 0, 1) by decide +kernel) rfl (by show (if 188 = 0 then none else some (_, _)) = _; rw [if_neg (by decide)]) ?_
      exact e_V (as := [aR 188]) (rest := [aL (q_lshl x6 8), aR 188]) (show decode (mC 172) 240 = .ok (.invokevirtual 142, 3) by decide +kernel) (by decide +kernel) (show (decide ((1 : Nat) = mA 169) && decide (169 < q_law)) = true by decide +kernel) rfl (show (3 : Nat) ≤ 8 by decide) (show (1 : Nat) ≤ mL 169 by decide +kernel) rfl (sh_ok hG (by decide +kernel)) (m12 p1 p2)
  · refine e_P (st' := [aI 1]) (show decode (mC 172) 216 = .ok (.iconst 1, 1) by decide +kernel) rfl rfl rfl ?_
    refine e_go (t := 221) (show decode (mC 172) 217 = .ok (.goto 4, 3) by decide +kernel) (by decide) ?_
    refine e_L (L' := [some (aR 188), none, some (aI v2), some (aI 1)]) (st' := []) (show decode (mC 172) 221 = .ok (.istore_n 3, 1) by decide +kernel) rfl rfl ?_
    refine e_L (L' := [some (aR 188), none, some (aI v2), some (aI 1)]) (st' := [aR 188]) (show decode (mC 172) 222 = .ok (.aload_n 0, 1) by decide +kernel) rfl (by show (if 188 = 0 then none else some (_, _)) = _; rw [if_neg (by decide)]) ?_
    refine e_getIx (show decode (mC 172) 223 = .ok (.getfield 149, 3) by decide +kernel) (show pl 12 149 = some (0, 12, 13, 0) by decide +kernel) (by decide) (sh_ok hG (by decide +kernel)) ex7 ?_
    refine e_P (st' := [aI 7, aI x7]) (show decode (mC 172) 226 = .ok (.bipush 7, 2) by decide +kernel) rfl rfl rfl ?_
    refine e_ge2 (t := 248) (show decode (mC 172) 228 = .ok (.if_icmp .ge 20, 3) by decide +kernel) (by decide) (s14 p1) (by decide) (fun p2 => ?_) (fun p2 => ?_)
    · refine e_L (L' := [some (aR 188), none, some (aI v2), some (aI 1)]) (st' := [aR 188]) (show decode (mC 172) 248 = .ok (.aload_n 0, 1) by decide +kernel) rfl (by show (if 188 = 0 then none else some (_, _)) = _; rw [if_neg (by decide)]) ?_
      refine e_getIx (show decode (mC 172) 249 = .ok (.getfield 149, 3) by decide +kernel) (show pl 12 149 = some (0, 12, 13, 0) by decide +kernel) (by decide) (sh_ok hG (by decide +kernel)) ex8 ?_
      refine e_P (st' := [aI 3, aI x8]) (show decode (mC 172) 252 = .ok (.iconst 3, 1) by decide +kernel) rfl rfl rfl ?_
      refine e_ge2 (t := 275) (show decode (mC 172) 253 = .ok (.if_icmp .ge 22, 3) by decide +kernel) (by decide) (s16 p1 p2) (by decide) (fun p3 => ?_) (fun p3 => ?_)
      · refine e_L (L' := [some (aR 188), none, some (aI v2), some (aI 1)]) (st' := [aR 188]) (show decode (mC 172) 275 = .ok (.aload_n 0, 1) by decide +kernel) rfl (by show (if 188 = 0 then none else some (_, _)) = _; rw [if_neg (by decide)]) ?_
        refine e_P (st' := [aR 188, aR 188]) (show decode (mC 172) 276 = .ok (.dup, 1) by decide +kernel) rfl rfl rfl ?_
        refine e_getIx (show decode (mC 172) 277 = .ok (.getfield 149, 3) by decide +kernel) (show pl 12 149 = some (0, 12, 13, 0) by decide +kernel) (by decide) (sh_ok hG (by decide +kernel)) ex9 ?_
        refine e_P (st' := [aI 1, aI x9, aR 188]) (show decode (mC 172) 280 = .ok (.iconst 1, 1) by decide +kernel) rfl rfl rfl ?_
        refine e_P (st' := [aI (x9 + 1), aR 188]) (show decode (mC 172) 281 = .ok (.iadd, 1) by decide +kernel) rfl rfl rfl ?_
        refine e_putI (show decode (mC 172) 282 = .ok (.putfield 149, 3) by decide +kernel) (show pl 12 149 = some (0, 12, 13, 0) by decide +kernel) (by decide) (sh_ok hG (by decide +kernel)) ?_
        refine e_L (L' := [some (aR 188), none, some (aI v2), some (aI 1)]) (st' := [aR 188]) (show decode (mC 172) 285 = .ok (.aload_n 0, 1) by decide +kernel) rfl (by show (if 188 = 0 then none else some (_, _)) = _; rw [if_neg (by decide)]) ?_
        refine e_P (st' := [aR 188, aR 188]) (show decode (mC 172) 286 = .ok (.dup, 1) by decide +kernel) rfl rfl rfl ?_
        refine e_getIx (show decode (mC 172) 287 = .ok (.getfield 21, 3) by decide +kernel) (show pl 12 21 = some (0, 12, 4, 0) by decide +kernel) (by decide) (sh_ok hG (by decide +kernel)) ex10 ?_
        refine e_P (st' := [aI 1, aI x10, aR 188]) (show decode (mC 172) 290 = .ok (.iconst 1, 1) by decide +kernel) rfl rfl rfl ?_
        refine e_P (st' := [aI (x10 + 1), aR 188]) (show decode (mC 172) 291 = .ok (.iadd, 1) by decide +kernel) rfl rfl rfl ?_
        refine e_putI (show decode (mC 172) 292 = .ok (.putfield 21, 3) by decide +kernel) (show pl 12 21 = some (0, 12, 4, 0) by decide +kernel) (by decide) (sh_ok hG (by decide +kernel)) ?_
        refine e_go (t := 181) (show decode (mC 172) 295 = .ok (.goto (-114), 3) by decide +kernel) (by decide) ?_
        exact (k19 p1 p2 p3)
      · refine e_L (L' := [some (aR 188), none, some (aI v2), some (aI 1)]) (st' := [aR 188]) (show decode (mC 172) 256 = .ok (.aload_n 0, 1) by decide +kernel) rfl (by show (if 188 = 0 then none else some (_, _)) = _; rw [if_neg (by decide)]) ?_
        refine e_P (st' := [aI 10, aR 188]) (show decode (mC 172) 257 = .ok (.bipush 10, 2) by decide +kernel) rfl rfl rfl ?_
        refine e_L (L' := [some (aR 188), none, some (aI v2), some (aI 1)]) (st' := [aR 188, aI 10, aR 188]) (show decode (mC 172) 259 = .ok (.aload_n 0, 1) by decide +kernel) rfl (by show (if 188 = 0 then none else some (_, _)) = _; rw [if_neg (by decide)]) ?_
        refine e_getIx (show decode (mC 172) 260 = .ok (.getfield 162, 3) by decide +kernel) (show pl 12 162 = some (0, 12, 14, 0) by decide +kernel) (by decide) (sh_ok hG (by decide +kernel)) ex11 ?_
        refine e_P (st' := [aI (10 * x11), aR 188]) (show decode (mC 172) 263 = .ok (.imul, 1) by decide +kernel) rfl rfl rfl ?_
        refine e_L (L' := [some (aR 188), none, some (aI v2), some (aI 1)]) (st' := [aR 188, aI (10 * x11), aR 188]) (show decode (mC 172) 264 = .ok (.aload_n 0, 1) by decide +kernel) rfl (by show (if 188 = 0 then none else some (_, _)) = _; rw [if_neg (by decide)]) ?_
        exact e_V (as := [aR 188]) (rest := [aI (10 * x11), aR 188]) (show decode (mC 172) 265 = .ok (.invokevirtual 142, 3) by decide +kernel) (by decide +kernel) (show (decide ((1 : Nat) = mA 169) && decide (169 < q_law)) = true by decide +kernel) rfl (show (2 : Nat) ≤ 8 by decide) (show (1 : Nat) ≤ mL 169 by decide +kernel) rfl (sh_ok hG (by decide +kernel)) (m21 p1 p2 p3)
    · refine e_L (L' := [some (aR 188), none, some (aI v2), some (aI 1)]) (st' := [aR 188]) (show decode (mC 172) 231 = .ok (.aload_n 0, 1) by decide +kernel) rfl (by show (if 188 = 0 then none else some (_, _)) = _; rw [if_neg (by decide)]) ?_
      refine e_L (L' := [some (aR 188), none, some (aI v2), some (aI 1)]) (st' := [aR 188, aR 188]) (show decode (mC 172) 232 = .ok (.aload_n 0, 1) by decide +kernel) rfl (by show (if 188 = 0 then none else some (_, _)) = _; rw [if_neg (by decide)]) ?_
      refine e_getLx (show decode (mC 172) 233 = .ok (.getfield 165, 3) by decide +kernel) (show pl 12 165 = some (0, 12, 17, 0) by decide +kernel) (by decide) (sh_ok hG (by decide +kernel)) ex12 ?_
      refine e_P (st' := [aI 8, aL x12, aR 188]) (show decode (mC 172) 236 = .ok (.bipush 8, 2) by decide +kernel) rfl rfl rfl ?_
      refine e_P (st' := [aL (q_lshl x12 8), aR 188]) (show decode (mC 172) 238 = .ok (.lshl, 1) by decide +kernel) rfl rfl rfl ?_
      refine e_L (L' := [some (aR 188), none, some (aI v2), some (aI 1)]) (st' := [aR 188, aL (q_lshl x12 8), aR 188]) (show decode (mC 172) 239 = .ok (.aload_n 0, 1) by decide +kernel) rfl (by show (if 188 = 0 then none else some (_, _)) = _; rw [if_neg (by decide)]) ?_
      exact e_V (as := [aR 188]) (rest := [aL (q_lshl x12 8), aR 188]) (show decode (mC 172) 240 = .ok (.invokevirtual 142, 3) by decide +kernel) (by decide +kernel) (show (decide ((1 : Nat) = mA 169) && decide (169 < q_law)) = true by decide +kernel) rfl (show (3 : Nat) ≤ 8 by decide) (show (1 : Nat) ≤ mL 169 by decide +kernel) rfl (sh_ok hG (by decide +kernel)) (m23 p1 p2)
end QB22
