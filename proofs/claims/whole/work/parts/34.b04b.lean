section QB4
variable {d : Nat} {G : GG} {c : CC} {Q : OO → HH → Prop}
/-- SoulOffice$Life.owesInAll(I)I, from 0 -/
theorem b22_0 (hG : Shp G) {v1 : Int} {a : Nat} (h_a : Life a)
    (k0 : T (d + 1) 22 4 [some (aR a), some (aI v1), some (aI 0), some (aI 0)] [] (G, c) Q) :
    T (d + 1) 22 0 [some (aR a), some (aI v1), none, none] [] (G, c) Q := by
  refine e_P (st' := [aI 0]) (show decode (mC 22) 0 = .ok (.iconst 0, 1) by decide +kernel) rfl rfl rfl ?_
  refine e_L (L' := [some (aR a), some (aI v1), some (aI 0), none]) (st' := []) (show decode (mC 22) 1 = .ok (.istore_n 2, 1) by decide +kernel) rfl rfl ?_
  refine e_P (st' := [aI 0]) (show decode (mC 22) 2 = .ok (.iconst 0, 1) by decide +kernel) rfl rfl rfl ?_
  refine e_L (L' := [some (aR a), some (aI v1), some (aI 0), some (aI 0)]) (st' := []) (show decode (mC 22) 3 = .ok (.istore_n 3, 1) by decide +kernel) rfl rfl ?_
  exact k0
/-- SoulOffice$Life.owesInAll(I)I, from 4 -/
theorem b22_4 (hG : Shp G) {v1 v2 v3 x1 : Int} {a : Nat} (h_a : Life a) (hQ : ∀ o o' h', q_eqo o o' → Q o h' → Q o' h')
    (ex1 : c 9 1 = x1)
    (s1 : -2147483648 ≤ v3 ∧ v3 < 2147483648)
    (s2 : -2147483648 ≤ x1 ∧ x1 < 2147483648)
    (z3 : (x1 ≤ v3) → Q (.inl (some (aI v2))) (G, c))
    (m4 : (v3 < x1) → TM d 151 [aI v1, aI v3] (G, c) (fun r h' => T (d + 1) 22 25 [some (aR a), some (aI v1), none, some (aI v3)] (r.toList ++ [aR (a + 6), aI v2]) h' Q)) :
    T (d + 1) 22 4 [some (aR a), some (aI v1), some (aI v2), some (aI v3)] [] (G, c) Q := by
  refine e_L (L' := [some (aR a), some (aI v1), some (aI v2), some (aI v3)]) (st' := [aI v3]) (show decode (mC 22) 4 = .ok (.iload_n 3, 1) by decide +kernel) rfl rfl ?_
  refine e_L (L' := [some (aR a), some (aI v1), some (aI v2), some (aI v3)]) (st' := [aR a, aI v3]) (show decode (mC 22) 5 = .ok (.aload_n 0, 1) by decide +kernel) rfl (by show (if a = 0 then none else some (_, _)) = _; rw [if_neg (show ¬ a = 0 from lf_ne h_a 0)]) ?_
  refine e_getR (w := 9) (show decode (mC 22) 6 = .ok (.getfield 33, 3) by decide +kernel) (show pl 4 33 = some (0, 4, 0, 0) by decide +kernel) (by decide) (lf_ok hG h_a 0 (by decide)) (lf_r0 hG h_a) ?_
  refine e_getIx (show decode (mC 22) 9 = .ok (.getfield 61, 3) by decide +kernel) (show pl 4 61 = some (0, 8, 1, 0) by decide +kernel) (by decide) (sh_ok hG (by decide +kernel)) ex1 ?_
  refine e_ge2 (t := 34) (show decode (mC 22) 12 = .ok (.if_icmp .ge 22, 3) by decide +kernel) (by decide) s1 s2 (fun p1 => ?_) (fun p1 => ?_)
  · refine e_L (L' := [some (aR a), some (aI v1), some (aI v2), some (aI v3)]) (st' := [aI v2]) (show decode (mC 22) 34 = .ok (.iload_n 2, 1) by decide +kernel) rfl rfl ?_
    exact e_iret (show decode (mC 22) 35 = .ok (.ireturn, 1) by decide +kernel) rfl (z3 p1)
  · refine e_L (L' := [some (aR a), some (aI v1), some (aI v2), some (aI v3)]) (st' := [aI v2]) (show decode (mC 22) 15 = .ok (.iload_n 2, 1) by decide +kernel) rfl rfl ?_
    refine e_L (L' := [some (aR a), some (aI v1), some (aI v2), some (aI v3)]) (st' := [aR a, aI v2]) (show decode (mC 22) 16 = .ok (.aload_n 0, 1) by decide +kernel) rfl (by show (if a = 0 then none else some (_, _)) = _; rw [if_neg (show ¬ a = 0 from lf_ne h_a 0)]) ?_
    refine e_getR (w := (a + 6)) (show decode (mC 22) 17 = .ok (.getfield 27, 3) by decide +kernel) (show pl 4 27 = some (0, 4, 9, 0) by decide +kernel) (by decide) (lf_ok hG h_a 0 (by decide)) (lf_rf hG h_a 5 (by decide)) ?_
    refine e_L (L' := [some (aR a), some (aI v1), some (aI v2), some (aI v3)]) (st' := [aI v1, aR (a + 6), aI v2]) (show decode (mC 22) 20 = .ok (.iload_n 1, 1) by decide +kernel) rfl rfl ?_
    refine e_L (L' := [some (aR a), some (aI v1), some (aI v2), some (aI v3)]) (st' := [aI v3, aI v1, aR (a + 6), aI v2]) (show decode (mC 22) 21 = .ok (.iload_n 3, 1) by decide +kernel) rfl rfl ?_
    exact e_S (as := [aI v1, aI v3]) (rest := [aR (a + 6), aI v2]) (show decode (mC 22) 22 = .ok (.invokestatic 64, 3) by decide +kernel) (by decide +kernel) (show (decide ((2 : Nat) = mA 151) && decide (151 < q_law)) = true by decide +kernel) rfl (show (2 : Nat) ≤ 8 by decide) (show (2 : Nat) ≤ mL 151 by decide +kernel) (tm_le hQ (leS (leS (leN (leS leE)))) (m4 p1))
/-- SoulOffice$Life.owesInAll(I)I, from 25 -/
theorem b22_25 (hG : Shp G) {v1 v3 u0 u2 x1 : Int} {a : Nat} (h_a : Life a)
    (s0 : 0 ≤ u2)
    (s1 : u2 < 64)
    (ex1 : c (a + 6) u2 = x1)
    (k3 : T (d + 1) 22 4 [some (aR a), some (aI v1), some (aI (u0 + x1)), some (aI (v3 + 1))] [] (G, c) Q) :
    T (d + 1) 22 25 [some (aR a), some (aI v1), none, some (aI v3)] [aI u2, aR (a + 6), aI u0] (G, c) Q := by
  refine e_ialdx (n := 64) (show decode (mC 22) 25 = .ok (.iaload, 1) by decide +kernel) (lf_ok hG h_a 6 (by decide)) (lf_ln hG h_a 6 (by decide)) (by decide) s0 s1 ex1 ?_
  refine e_P (st' := [aI (u0 + x1)]) (show decode (mC 22) 26 = .ok (.iadd, 1) by decide +kernel) rfl rfl rfl ?_
  refine e_L (L' := [some (aR a), some (aI v1), some (aI (u0 + x1)), some (aI v3)]) (st' := []) (show decode (mC 22) 27 = .ok (.istore_n 2, 1) by decide +kernel) rfl rfl ?_
  refine e_L (L' := [some (aR a), some (aI v1), some (aI (u0 + x1)), some (aI (v3 + 1))]) (st' := []) (show decode (mC 22) 28 = .ok (.iinc 3 1, 3) by decide +kernel) rfl rfl ?_
  refine e_go (t := 4) (show decode (mC 22) 31 = .ok (.goto (-27), 3) by decide +kernel) (by decide) ?_
  exact k3
/-- SoulOffice$Life.owedInAll(I)I, from 0 -/
theorem b23_0 (hG : Shp G) {v1 : Int} {a : Nat} (h_a : Life a)
    (k0 : T (d + 1) 23 4 [some (aR a), some (aI v1), some (aI 0), some (aI 0)] [] (G, c) Q) :
    T (d + 1) 23 0 [some (aR a), some (aI v1), none, none] [] (G, c) Q := by
  refine e_P (st' := [aI 0]) (show decode (mC 23) 0 = .ok (.iconst 0, 1) by decide +kernel) rfl rfl rfl ?_
  refine e_L (L' := [some (aR a), some (aI v1), some (aI 0), none]) (st' := []) (show decode (mC 23) 1 = .ok (.istore_n 2, 1) by decide +kernel) rfl rfl ?_
  refine e_P (st' := [aI 0]) (show decode (mC 23) 2 = .ok (.iconst 0, 1) by decide +kernel) rfl rfl rfl ?_
  refine e_L (L' := [some (aR a), some (aI v1), some (aI 0), some (aI 0)]) (st' := []) (show decode (mC 23) 3 = .ok (.istore_n 3, 1) by decide +kernel) rfl rfl ?_
  exact k0
/-- SoulOffice$Life.owedInAll(I)I, from 4 -/
theorem b23_4 (hG : Shp G) {v1 v2 v3 x1 : Int} {a : Nat} (h_a : Life a) (hQ : ∀ o o' h', q_eqo o o' → Q o h' → Q o' h')
    (ex1 : c 9 1 = x1)
    (s1 : -2147483648 ≤ v3 ∧ v3 < 2147483648)
    (s2 : -2147483648 ≤ x1 ∧ x1 < 2147483648)
    (z3 : (x1 ≤ v3) → Q (.inl (some (aI v2))) (G, c))
    (m4 : (v3 < x1) → TM d 151 [aI v3, aI v1] (G, c) (fun r h' => T (d + 1) 23 25 [some (aR a), some (aI v1), none, some (aI v3)] (r.toList ++ [aR (a + 6), aI v2]) h' Q)) :
    T (d + 1) 23 4 [some (aR a), some (aI v1), some (aI v2), some (aI v3)] [] (G, c) Q := by
  refine e_L (L' := [some (aR a), some (aI v1), some (aI v2), some (aI v3)]) (st' := [aI v3]) (show decode (mC 23) 4 = .ok (.iload_n 3, 1) by decide +kernel) rfl rfl ?_
  refine e_L (L' := [some (aR a), some (aI v1), some (aI v2), some (aI v3)]) (st' := [aR a, aI v3]) (show decode (mC 23) 5 = .ok (.aload_n 0, 1) by decide +kernel) rfl (by show (if a = 0 then none else some (_, _)) = _; rw [if_neg (show ¬ a = 0 from lf_ne h_a 0)]) ?_
  refine e_getR (w := 9) (show decode (mC 23) 6 = .ok (.getfield 33, 3) by decide +kernel) (show pl 4 33 = some (0, 4, 0, 0) by decide +kernel) (by decide) (lf_ok hG h_a 0 (by decide)) (lf_r0 hG h_a) ?_
  refine e_getIx (show decode (mC 23) 9 = .ok (.getfield 61, 3) by decide +kernel) (show pl 4 61 = some (0, 8, 1, 0) by decide +kernel) (by decide) (sh_ok hG (by decide +kernel)) ex1 ?_
  refine e_ge2 (t := 34) (show decode (mC 23) 12 = .ok (.if_icmp .ge 22, 3) by decide +kernel) (by decide) s1 s2 (fun p1 => ?_) (fun p1 => ?_)
  · refine e_L (L' := [some (aR a), some (aI v1), some (aI v2), some (aI v3)]) (st' := [aI v2]) (show decode (mC 23) 34 = .ok (.iload_n 2, 1) by decide +kernel) rfl rfl ?_
    exact e_iret (show decode (mC 23) 35 = .ok (.ireturn, 1) by decide +kernel) rfl (z3 p1)
  · refine e_L (L' := [some (aR a), some (aI v1), some (aI v2), some (aI v3)]) (st' := [aI v2]) (show decode (mC 23) 15 = .ok (.iload_n 2, 1) by decide +kernel) rfl rfl ?_
    refine e_L (L' := [some (aR a), some (aI v1), some (aI v2), some (aI v3)]) (st' := [aR a, aI v2]) (show decode (mC 23) 16 = .ok (.aload_n 0, 1) by decide +kernel) rfl (by show (if a = 0 then none else some (_, _)) = _; rw [if_neg (show ¬ a = 0 from lf_ne h_a 0)]) ?_
    refine e_getR (w := (a + 6)) (show decode (mC 23) 17 = .ok (.getfield 27, 3) by decide +kernel) (show pl 4 27 = some (0, 4, 9, 0) by decide +kernel) (by decide) (lf_ok hG h_a 0 (by decide)) (lf_rf hG h_a 5 (by decide)) ?_
    refine e_L (L' := [some (aR a), some (aI v1), some (aI v2), some (aI v3)]) (st' := [aI v3, aR (a + 6), aI v2]) (show decode (mC 23) 20 = .ok (.iload_n 3, 1) by decide +kernel) rfl rfl ?_
    refine e_L (L' := [some (aR a), some (aI v1), some (aI v2), some (aI v3)]) (st' := [aI v1, aI v3, aR (a + 6), aI v2]) (show decode (mC 23) 21 = .ok (.iload_n 1, 1) by decide +kernel) rfl rfl ?_
    exact e_S (as := [aI v3, aI v1]) (rest := [aR (a + 6), aI v2]) (show decode (mC 23) 22 = .ok (.invokestatic 64, 3) by decide +kernel) (by decide +kernel) (show (decide ((2 : Nat) = mA 151) && decide (151 < q_law)) = true by decide +kernel) rfl (show (2 : Nat) ≤ 8 by decide) (show (2 : Nat) ≤ mL 151 by decide +kernel) (tm_le hQ (leS (leS (leN (leS leE)))) (m4 p1))
/-- SoulOffice$Life.owedInAll(I)I, from 25 -/
theorem b23_25 (hG : Shp G) {v1 v3 u0 u2 x1 : Int} {a : Nat} (h_a : Life a)
    (s0 : 0 ≤ u2)
    (s1 : u2 < 64)
    (ex1 : c (a + 6) u2 = x1)
    (k3 : T (d + 1) 23 4 [some (aR a), some (aI v1), some (aI (u0 + x1)), some (aI (v3 + 1))] [] (G, c) Q) :
    T (d + 1) 23 25 [some (aR a), some (aI v1), none, some (aI v3)] [aI u2, aR (a + 6), aI u0] (G, c) Q := by
  refine e_ialdx (n := 64) (show decode (mC 23) 25 = .ok (.iaload, 1) by decide +kernel) (lf_ok hG h_a 6 (by decide)) (lf_ln hG h_a 6 (by decide)) (by decide) s0 s1 ex1 ?_
  refine e_P (st' := [aI (u0 + x1)]) (show decode (mC 23) 26 = .ok (.iadd, 1) by decide +kernel) rfl rfl rfl ?_
  refine e_L (L' := [some (aR a), some (aI v1), some (aI (u0 + x1)), some (aI v3)]) (st' := []) (show decode (mC 23) 27 = .ok (.istore_n 2, 1) by decide +kernel) rfl rfl ?_
  refine e_L (L' := [some (aR a), some (aI v1), some (aI (u0 + x1)), some (aI (v3 + 1))]) (st' := []) (show decode (mC 23) 28 = .ok (.iinc 3 1, 3) by decide +kernel) rfl rfl ?_
  refine e_go (t := 4) (show decode (mC 23) 31 = .ok (.goto (-27), 3) by decide +kernel) (by decide) ?_
  exact k3
/-- SoulOffice$Life.allDebts()I, from 0 -/
theorem b24_0 (hG : Shp G) {a : Nat} (h_a : Life a)
    (k0 : T d 24 4 [some (aR a), some (aI 0), some (aI 0)] [] (G, c) Q) :
    T d 24 0 [some (aR a), none, none] [] (G, c) Q := by
  refine e_P (st' := [aI 0]) (show decode (mC 24) 0 = .ok (.iconst 0, 1) by decide +kernel) rfl rfl rfl ?_
  refine e_L (L' := [some (aR a), some (aI 0), none]) (st' := []) (show decode (mC 24) 1 = .ok (.istore_n 1, 1) by decide +kernel) rfl rfl ?_
  refine e_P (st' := [aI 0]) (show decode (mC 24) 2 = .ok (.iconst 0, 1) by decide +kernel) rfl rfl rfl ?_
  refine e_L (L' := [some (aR a), some (aI 0), some (aI 0)]) (st' := []) (show decode (mC 24) 3 = .ok (.istore_n 2, 1) by decide +kernel) rfl rfl ?_
  exact k0
/-- SoulOffice$Life.allDebts()I, from 4 -/
theorem b24_4 (hG : Shp G) {v1 v2 x1 : Int} {a : Nat} (h_a : Life a)
    (s0 : -2147483648 ≤ v2 ∧ v2 < 2147483648)
    (z1 : (64 ≤ v2) → Q (.inl (some (aI v1))) (G, c))
    (s2 : (v2 < 64) → 0 ≤ v2)
    (s3 : (v2 < 64) → v2 < 64)
    (ex1 : c (a + 6) v2 = x1)
    (k5 : (v2 < 64) → T d 24 4 [some (aR a), some (aI (v1 + x1)), some (aI (v2 + 1))] [] (G, c) Q) :
    T d 24 4 [some (aR a), some (aI v1), some (aI v2)] [] (G, c) Q := by
  refine e_L (L' := [some (aR a), some (aI v1), some (aI v2)]) (st' := [aI v2]) (show decode (mC 24) 4 = .ok (.iload_n 2, 1) by decide +kernel) rfl rfl ?_
  refine e_L (L' := [some (aR a), some (aI v1), some (aI v2)]) (st' := [aR a, aI v2]) (show decode (mC 24) 5 = .ok (.aload_n 0, 1) by decide +kernel) rfl (by show (if a = 0 then none else some (_, _)) = _; rw [if_neg (show ¬ a = 0 from lf_ne h_a 0)]) ?_
  refine e_getR (w := (a + 6)) (show decode (mC 24) 6 = .ok (.getfield 27, 3) by decide +kernel) (show pl 4 27 = some (0, 4, 9, 0) by decide +kernel) (by decide) (lf_ok hG h_a 0 (by decide)) (lf_rf hG h_a 5 (by decide)) ?_
  refine e_alen (n := 64) (ki := 20) (show decode (mC 24) 9 = .ok (.arraylength, 1) by decide +kernel) (lf_ok hG h_a 6 (by decide)) (by decide) (lf_ln hG h_a 6 (by decide)) ?_
  refine e_ge2 (t := 28) (show decode (mC 24) 10 = .ok (.if_icmp .ge 18, 3) by decide +kernel) (by decide) s0 (by decide) (fun p1 => ?_) (fun p1 => ?_)
  · refine e_L (L' := [some (aR a), some (aI v1), some (aI v2)]) (st' := [aI v1]) (show decode (mC 24) 28 = .ok (.iload_n 1, 1) by decide +kernel) rfl rfl ?_
    exact e_iret (show decode (mC 24) 29 = .ok (.ireturn, 1) by decide +kernel) rfl (z1 p1)
  · refine e_L (L' := [some (aR a), some (aI v1), some (aI v2)]) (st' := [aI v1]) (show decode (mC 24) 13 = .ok (.iload_n 1, 1) by decide +kernel) rfl rfl ?_
    refine e_L (L' := [some (aR a), some (aI v1), some (aI v2)]) (st' := [aR a, aI v1]) (show decode (mC 24) 14 = .ok (.aload_n 0, 1) by decide +kernel) rfl (by show (if a = 0 then none else some (_, _)) = _; rw [if_neg (show ¬ a = 0 from lf_ne h_a 0)]) ?_
    refine e_getR (w := (a + 6)) (show decode (mC 24) 15 = .ok (.getfield 27, 3) by decide +kernel) (show pl 4 27 = some (0, 4, 9, 0) by decide +kernel) (by decide) (lf_ok hG h_a 0 (by decide)) (lf_rf hG h_a 5 (by decide)) ?_
    refine e_L (L' := [some (aR a), some (aI v1), some (aI v2)]) (st' := [aI v2, aR (a + 6), aI v1]) (show decode (mC 24) 18 = .ok (.iload_n 2, 1) by decide +kernel) rfl rfl ?_
    refine e_ialdx (n := 64) (show decode (mC 24) 19 = .ok (.iaload, 1) by decide +kernel) (lf_ok hG h_a 6 (by decide)) (lf_ln hG h_a 6 (by decide)) (by decide) (s2 p1) (s3 p1) ex1 ?_
    refine e_P (st' := [aI (v1 + x1)]) (show decode (mC 24) 20 = .ok (.iadd, 1) by decide +kernel) rfl rfl rfl ?_
    refine e_L (L' := [some (aR a), some (aI (v1 + x1)), some (aI v2)]) (st' := []) (show decode (mC 24) 21 = .ok (.istore_n 1, 1) by decide +kernel) rfl rfl ?_
    refine e_L (L' := [some (aR a), some (aI (v1 + x1)), some (aI (v2 + 1))]) (st' := []) (show decode (mC 24) 22 = .ok (.iinc 2 1, 3) by decide +kernel) rfl rfl ?_
    refine e_go (t := 4) (show decode (mC 24) 25 = .ok (.goto (-21), 3) by decide +kernel) (by decide) ?_
    exact (k5 p1)
/-- SoulOffice$Life.countDebts()I, from 0 -/
theorem b25_0 (hG : Shp G) {a : Nat} (h_a : Life a)
    (k0 : T d 25 4 [some (aR a), some (aI 0), some (aI 0)] [] (G, c) Q) :
    T d 25 0 [some (aR a), none, none] [] (G, c) Q := by
  refine e_P (st' := [aI 0]) (show decode (mC 25) 0 = .ok (.iconst 0, 1) by decide +kernel) rfl rfl rfl ?_
  refine e_L (L' := [some (aR a), some (aI 0), none]) (st' := []) (show decode (mC 25) 1 = .ok (.istore_n 1, 1) by decide +kernel) rfl rfl ?_
  refine e_P (st' := [aI 0]) (show decode (mC 25) 2 = .ok (.iconst 0, 1) by decide +kernel) rfl rfl rfl ?_
  refine e_L (L' := [some (aR a), some (aI 0), some (aI 0)]) (st' := []) (show decode (mC 25) 3 = .ok (.istore_n 2, 1) by decide +kernel) rfl rfl ?_
  exact k0
/-- SoulOffice$Life.countDebts()I, from 4 -/
theorem b25_4 (hG : Shp G) {v1 v2 x1 : Int} {a : Nat} (h_a : Life a)
    (s0 : -2147483648 ≤ v2 ∧ v2 < 2147483648)
    (z1 : (64 ≤ v2) → Q (.inl (some (aI v1))) (G, c))
    (s2 : (v2 < 64) → 0 ≤ v2)
    (s3 : (v2 < 64) → v2 < 64)
    (ex1 : c (a + 6) v2 = x1)
    (s5 : (v2 < 64) → -2147483648 ≤ x1 ∧ x1 < 2147483648)
    (k6 : (v2 < 64) → (x1 ≤ 0) → T d 25 4 [some (aR a), some (aI (v1 + 0)), some (aI (v2 + 1))] [] (G, c) Q)
    (k7 : (v2 < 64) → (0 < x1) → T d 25 4 [some (aR a), some (aI (v1 + 1)), some (aI (v2 + 1))] [] (G, c) Q) :
    T d 25 4 [some (aR a), some (aI v1), some (aI v2)] [] (G, c) Q := by
  refine e_L (L' := [some (aR a), some (aI v1), some (aI v2)]) (st' := [aI v2]) (show decode (mC 25) 4 = .ok (.iload_n 2, 1) by decide +kernel) rfl rfl ?_
  refine e_L (L' := [some (aR a), some (aI v1), some (aI v2)]) (st' := [aR a, aI v2]) (show decode (mC 25) 5 = .ok (.aload_n 0, 1) by decide +kernel) rfl (by show (if a = 0 then none else some (_, _)) = _; rw [if_neg (show ¬ a = 0 from lf_ne h_a 0)]) ?_
  refine e_getR (w := (a + 6)) (show decode (mC 25) 6 = .ok (.getfield 27, 3) by decide +kernel) (show pl 4 27 = some (0, 4, 9, 0) by decide +kernel) (by decide) (lf_ok hG h_a 0 (by decide)) (lf_rf hG h_a 5 (by decide)) ?_
  refine e_alen (n := 64) (ki := 20) (show decode (mC 25) 9 = .ok (.arraylength, 1) by decide +kernel) (lf_ok hG h_a 6 (by decide)) (by decide) (lf_ln hG h_a 6 (by decide)) ?_
  refine e_ge2 (t := 36) (show decode (mC 25) 10 = .ok (.if_icmp .ge 26, 3) by decide +kernel) (by decide) s0 (by decide) (fun p1 => ?_) (fun p1 => ?_)
  · refine e_L (L' := [some (aR a), some (aI v1), some (aI v2)]) (st' := [aI v1]) (show decode (mC 25) 36 = .ok (.iload_n 1, 1) by decide +kernel) rfl rfl ?_
    exact e_iret (show decode (mC 25) 37 = .ok (.ireturn, 1) by decide +kernel) rfl (z1 p1)
  · refine e_L (L' := [some (aR a), some (aI v1), some (aI v2)]) (st' := [aI v1]) (show decode (mC 25) 13 = .ok (.iload_n 1, 1) by decide +kernel) rfl rfl ?_
    refine e_L (L' := [some (aR a), some (aI v1), some (aI v2)]) (st' := [aR a, aI v1]) (show decode (mC 25) 14 = .ok (.aload_n 0, 1) by decide +kernel) rfl (by show (if a = 0 then none else some (_, _)) = _; rw [if_neg (show ¬ a = 0 from lf_ne h_a 0)]) ?_
    refine e_getR (w := (a + 6)) (show decode (mC 25) 15 = .ok (.getfield 27, 3) by decide +kernel) (show pl 4 27 = some (0, 4, 9, 0) by decide +kernel) (by decide) (lf_ok hG h_a 0 (by decide)) (lf_rf hG h_a 5 (by decide)) ?_
    refine e_L (L' := [some (aR a), some (aI v1), some (aI v2)]) (st' := [aI v2, aR (a + 6), aI v1]) (show decode (mC 25) 18 = .ok (.iload_n 2, 1) by decide +kernel) rfl rfl ?_
    refine e_ialdx (n := 64) (show decode (mC 25) 19 = .ok (.iaload, 1) by decide +kernel) (lf_ok hG h_a 6 (by decide)) (lf_ln hG h_a 6 (by decide)) (by decide) (s2 p1) (s3 p1) ex1 ?_
    refine e_le1 (t := 27) (show decode (mC 25) 20 = .ok (.ifCond .le 7, 3) by decide +kernel) (by decide) (s5 p1) (fun p2 => ?_) (fun p2 => ?_)
    · refine e_P (st' := [aI 0, aI v1]) (show decode (mC 25) 27 = .ok (.iconst 0, 1) by decide +kernel) rfl rfl rfl ?_
      refine e_P (st' := [aI (v1 + 0)]) (show decode (mC 25) 28 = .ok (.iadd, 1) by decide +kernel) rfl rfl rfl ?_
      refine e_L (L' := [some (aR a), some (aI (v1 + 0)), some (aI v2)]) (st' := []) (show decode (mC 25) 29 = .ok (.istore_n 1, 1) by decide +kernel) rfl rfl ?_
      refine e_L (L' := [some (aR a), some (aI (v1 + 0)), some (aI (v2 + 1))]) (st' := []) (show decode (mC 25) 30 = .ok (.iinc 2 1, 3) by decide +kernel) rfl rfl ?_
      refine e_go (t := 4) (show decode (mC 25) 33 = .ok (.goto (-29), 3) by decide +kernel) (by decide) ?_
      exact (k6 p1 p2)
    · refine e_P (st' := [aI 1, aI v1]) (show decode (mC 25) 23 = .ok (.iconst 1, 1) by decide +kernel) rfl rfl rfl ?_
      refine e_go (t := 28) (show decode (mC 25) 24 = .ok (.goto 4, 3) by decide +kernel) (by decide) ?_
      refine e_P (st' := [aI (v1 + 1)]) (show decode (mC 25) 28 = .ok (.iadd, 1) by decide +kernel) rfl rfl rfl ?_
      refine e_L (L' := [some (aR a), some (aI (v1 + 1)), some (aI v2)]) (st' := []) (show decode (mC 25) 29 = .ok (.istore_n 1, 1) by decide +kernel) rfl rfl ?_
      refine e_L (L' := [some (aR a), some (aI (v1 + 1)), some (aI (v2 + 1))]) (st' := []) (show decode (mC 25) 30 = .ok (.iinc 2 1, 3) by decide +kernel) rfl rfl ?_
      refine e_go (t := 4) (show decode (mC 25) 33 = .ok (.goto (-29), 3) by decide +kernel) (by decide) ?_
      exact (k7 p1 p2)
/-- SoulOffice$Life.countWaiting()I, from 0 -/
theorem b26_0 (hG : Shp G) {a : Nat} (h_a : Life a)
    (k0 : T d 26 4 [some (aR a), some (aI 0), some (aI 0)] [] (G, c) Q) :
    T d 26 0 [some (aR a), none, none] [] (G, c) Q := by
  refine e_P (st' := [aI 0]) (show decode (mC 26) 0 = .ok (.iconst 0, 1) by decide +kernel) rfl rfl rfl ?_
  refine e_L (L' := [some (aR a), some (aI 0), none]) (st' := []) (show decode (mC 26) 1 = .ok (.istore_n 1, 1) by decide +kernel) rfl rfl ?_
  refine e_P (st' := [aI 0]) (show decode (mC 26) 2 = .ok (.iconst 0, 1) by decide +kernel) rfl rfl rfl ?_
  refine e_L (L' := [some (aR a), some (aI 0), some (aI 0)]) (st' := []) (show decode (mC 26) 3 = .ok (.istore_n 2, 1) by decide +kernel) rfl rfl ?_
  exact k0
/-- SoulOffice$Life.countWaiting()I, from 4 -/
theorem b26_4 (hG : Shp G) {v1 v2 x1 x2 : Int} {a : Nat} (h_a : Life a)
    (ex1 : c 9 1 = x1)
    (s1 : -2147483648 ≤ v2 ∧ v2 < 2147483648)
    (s2 : -2147483648 ≤ x1 ∧ x1 < 2147483648)
    (z3 : (x1 ≤ v2) → Q (.inl (some (aI v1))) (G, c))
    (s4 : (v2 < x1) → 0 ≤ v2)
    (s5 : (v2 < x1) → v2 < 8)
    (ex2 : c (a + 1) v2 = x2)
    (s7 : (v2 < x1) → -2147483648 ≤ x2 ∧ x2 < 2147483648)
    (k8 : (v2 < x1) → (¬ x2 = (-1)) → T d 26 4 [some (aR a), some (aI (v1 + 0)), some (aI (v2 + 1))] [] (G, c) Q)
    (k9 : (v2 < x1) → (x2 = (-1)) → T d 26 4 [some (aR a), some (aI (v1 + 1)), some (aI (v2 + 1))] [] (G, c) Q) :
    T d 26 4 [some (aR a), some (aI v1), some (aI v2)] [] (G, c) Q := by
  refine e_L (L' := [some (aR a), some (aI v1), some (aI v2)]) (st' := [aI v2]) (show decode (mC 26) 4 = .ok (.iload_n 2, 1) by decide +kernel) rfl rfl ?_
  refine e_L (L' := [some (aR a), some (aI v1), some (aI v2)]) (st' := [aR a, aI v2]) (show decode (mC 26) 5 = .ok (.aload_n 0, 1) by decide +kernel) rfl (by show (if a = 0 then none else some (_, _)) = _; rw [if_neg (show ¬ a = 0 from lf_ne h_a 0)]) ?_
  refine e_getR (w := 9) (show decode (mC 26) 6 = .ok (.getfield 33, 3) by decide +kernel) (show pl 4 33 = some (0, 4, 0, 0) by decide +kernel) (by decide) (lf_ok hG h_a 0 (by decide)) (lf_r0 hG h_a) ?_
  refine e_getIx (show decode (mC 26) 9 = .ok (.getfield 61, 3) by decide +kernel) (show pl 4 61 = some (0, 8, 1, 0) by decide +kernel) (by decide) (sh_ok hG (by decide +kernel)) ex1 ?_
  refine e_ge2 (t := 39) (show decode (mC 26) 12 = .ok (.if_icmp .ge 27, 3) by decide +kernel) (by decide) s1 s2 (fun p1 => ?_) (fun p1 => ?_)
  · refine e_L (L' := [some (aR a), some (aI v1), some (aI v2)]) (st' := [aI v1]) (show decode (mC 26) 39 = .ok (.iload_n 1, 1) by decide +kernel) rfl rfl ?_
    exact e_iret (show decode (mC 26) 40 = .ok (.ireturn, 1) by decide +kernel) rfl (z3 p1)
  · refine e_L (L' := [some (aR a), some (aI v1), some (aI v2)]) (st' := [aI v1]) (show decode (mC 26) 15 = .ok (.iload_n 1, 1) by decide +kernel) rfl rfl ?_
    refine e_L (L' := [some (aR a), some (aI v1), some (aI v2)]) (st' := [aR a, aI v1]) (show decode (mC 26) 16 = .ok (.aload_n 0, 1) by decide +kernel) rfl (by show (if a = 0 then none else some (_, _)) = _; rw [if_neg (show ¬ a = 0 from lf_ne h_a 0)]) ?_
    refine e_getR (w := (a + 1)) (show decode (mC 26) 17 = .ok (.getfield 9, 3) by decide +kernel) (show pl 4 9 = some (0, 4, 4, 0) by decide +kernel) (by decide) (lf_ok hG h_a 0 (by decide)) (lf_rf hG h_a 0 (by decide)) ?_
    refine e_L (L' := [some (aR a), some (aI v1), some (aI v2)]) (st' := [aI v2, aR (a + 1), aI v1]) (show decode (mC 26) 20 = .ok (.iload_n 2, 1) by decide +kernel) rfl rfl ?_
    refine e_ialdx (n := 8) (show decode (mC 26) 21 = .ok (.iaload, 1) by decide +kernel) (lf_ok hG h_a 1 (by decide)) (lf_ln hG h_a 1 (by decide)) (by decide) (s4 p1) (s5 p1) ex2 ?_
    refine e_P (st' := [aI (-1), aI x2, aI v1]) (show decode (mC 26) 22 = .ok (.iconst (-1), 1) by decide +kernel) rfl rfl rfl ?_
    refine e_ne2 (t := 30) (show decode (mC 26) 23 = .ok (.if_icmp .ne 7, 3) by decide +kernel) (by decide) (s7 p1) (by decide) (fun p2 => ?_) (fun p2 => ?_)
    · refine e_P (st' := [aI 0, aI v1]) (show decode (mC 26) 30 = .ok (.iconst 0, 1) by decide +kernel) rfl rfl rfl ?_
      refine e_P (st' := [aI (v1 + 0)]) (show decode (mC 26) 31 = .ok (.iadd, 1) by decide +kernel) rfl rfl rfl ?_
      refine e_L (L' := [some (aR a), some (aI (v1 + 0)), some (aI v2)]) (st' := []) (show decode (mC 26) 32 = .ok (.istore_n 1, 1) by decide +kernel) rfl rfl ?_
      refine e_L (L' := [some (aR a), some (aI (v1 + 0)), some (aI (v2 + 1))]) (st' := []) (show decode (mC 26) 33 = .ok (.iinc 2 1, 3) by decide +kernel) rfl rfl ?_
      refine e_go (t := 4) (show decode (mC 26) 36 = .ok (.goto (-32), 3) by decide +kernel) (by decide) ?_
      exact (k8 p1 p2)
    · refine e_P (st' := [aI 1, aI v1]) (show decode (mC 26) 26 = .ok (.iconst 1, 1) by decide +kernel) rfl rfl rfl ?_
      refine e_go (t := 31) (show decode (mC 26) 27 = .ok (.goto 4, 3) by decide +kernel) (by decide) ?_
      refine e_P (st' := [aI (v1 + 1)]) (show decode (mC 26) 31 = .ok (.iadd, 1) by decide +kernel) rfl rfl rfl ?_
      refine e_L (L' := [some (aR a), some (aI (v1 + 1)), some (aI v2)]) (st' := []) (show decode (mC 26) 32 = .ok (.istore_n 1, 1) by decide +kernel) rfl rfl ?_
      refine e_L (L' := [some (aR a), some (aI (v1 + 1)), some (aI (v2 + 1))]) (st' := []) (show decode (mC 26) 33 = .ok (.iinc 2 1, 3) by decide +kernel) rfl rfl ?_
      refine e_go (t := 4) (show decode (mC 26) 36 = .ok (.goto (-32), 3) by decide +kernel) (by decide) ?_
      exact (k9 p1 p2)
/-- SoulOffice$Life.allBirths()I, from 0 -/
theorem b27_0 (hG : Shp G) {a : Nat} (h_a : Life a)
    (k0 : T d 27 4 [some (aR a), some (aI 0), some (aI 0)] [] (G, c) Q) :
    T d 27 0 [some (aR a), none, none] [] (G, c) Q := by
  refine e_P (st' := [aI 0]) (show decode (mC 27) 0 = .ok (.iconst 0, 1) by decide +kernel) rfl rfl rfl ?_
  refine e_L (L' := [some (aR a), some (aI 0), none]) (st' := []) (show decode (mC 27) 1 = .ok (.istore_n 1, 1) by decide +kernel) rfl rfl ?_
  refine e_P (st' := [aI 0]) (show decode (mC 27) 2 = .ok (.iconst 0, 1) by decide +kernel) rfl rfl rfl ?_
  refine e_L (L' := [some (aR a), some (aI 0), some (aI 0)]) (st' := []) (show decode (mC 27) 3 = .ok (.istore_n 2, 1) by decide +kernel) rfl rfl ?_
  exact k0
/-- SoulOffice$Life.allBirths()I, from 4 -/
theorem b27_4 (hG : Shp G) {v1 v2 x1 x2 : Int} {a : Nat} (h_a : Life a)
    (ex1 : c 9 1 = x1)
    (s1 : -2147483648 ≤ v2 ∧ v2 < 2147483648)
    (s2 : -2147483648 ≤ x1 ∧ x1 < 2147483648)
    (z3 : (x1 ≤ v2) → Q (.inl (some (aI v1))) (G, c))
    (s4 : (v2 < x1) → 0 ≤ v2)
    (s5 : (v2 < x1) → v2 < 8)
    (ex2 : c (a + 3) v2 = x2)
    (k7 : (v2 < x1) → T d 27 4 [some (aR a), some (aI (v1 + x2)), some (aI (v2 + 1))] [] (G, c) Q) :
    T d 27 4 [some (aR a), some (aI v1), some (aI v2)] [] (G, c) Q := by
  refine e_L (L' := [some (aR a), some (aI v1), some (aI v2)]) (st' := [aI v2]) (show decode (mC 27) 4 = .ok (.iload_n 2, 1) by decide +kernel) rfl rfl ?_
  refine e_L (L' := [some (aR a), some (aI v1), some (aI v2)]) (st' := [aR a, aI v2]) (show decode (mC 27) 5 = .ok (.aload_n 0, 1) by decide +kernel) rfl (by show (if a = 0 then none else some (_, _)) = _; rw [if_neg (show ¬ a = 0 from lf_ne h_a 0)]) ?_
  refine e_getR (w := 9) (show decode (mC 27) 6 = .ok (.getfield 33, 3) by decide +kernel) (show pl 4 33 = some (0, 4, 0, 0) by decide +kernel) (by decide) (lf_ok hG h_a 0 (by decide)) (lf_r0 hG h_a) ?_
  refine e_getIx (show decode (mC 27) 9 = .ok (.getfield 61, 3) by decide +kernel) (show pl 4 61 = some (0, 8, 1, 0) by decide +kernel) (by decide) (sh_ok hG (by decide +kernel)) ex1 ?_
  refine e_ge2 (t := 30) (show decode (mC 27) 12 = .ok (.if_icmp .ge 18, 3) by decide +kernel) (by decide) s1 s2 (fun p1 => ?_) (fun p1 => ?_)
  · refine e_L (L' := [some (aR a), some (aI v1), some (aI v2)]) (st' := [aI v1]) (show decode (mC 27) 30 = .ok (.iload_n 1, 1) by decide +kernel) rfl rfl ?_
    exact e_iret (show decode (mC 27) 31 = .ok (.ireturn, 1) by decide +kernel) rfl (z3 p1)
  · refine e_L (L' := [some (aR a), some (aI v1), some (aI v2)]) (st' := [aI v1]) (show decode (mC 27) 15 = .ok (.iload_n 1, 1) by decide +kernel) rfl rfl ?_
    refine e_L (L' := [some (aR a), some (aI v1), some (aI v2)]) (st' := [aR a, aI v1]) (show decode (mC 27) 16 = .ok (.aload_n 0, 1) by decide +kernel) rfl (by show (if a = 0 then none else some (_, _)) = _; rw [if_neg (show ¬ a = 0 from lf_ne h_a 0)]) ?_
    refine e_getR (w := (a + 3)) (show decode (mC 27) 17 = .ok (.getfield 18, 3) by decide +kernel) (show pl 4 18 = some (0, 4, 6, 0) by decide +kernel) (by decide) (lf_ok hG h_a 0 (by decide)) (lf_rf hG h_a 2 (by decide)) ?_
    refine e_L (L' := [some (aR a), some (aI v1), some (aI v2)]) (st' := [aI v2, aR (a + 3), aI v1]) (show decode (mC 27) 20 = .ok (.iload_n 2, 1) by decide +kernel) rfl rfl ?_
    refine e_ialdx (n := 8) (show decode (mC 27) 21 = .ok (.iaload, 1) by decide +kernel) (lf_ok hG h_a 3 (by decide)) (lf_ln hG h_a 3 (by decide)) (by decide) (s4 p1) (s5 p1) ex2 ?_
    refine e_P (st' := [aI (v1 + x2)]) (show decode (mC 27) 22 = .ok (.iadd, 1) by decide +kernel) rfl rfl rfl ?_
    refine e_L (L' := [some (aR a), some (aI (v1 + x2)), some (aI v2)]) (st' := []) (show decode (mC 27) 23 = .ok (.istore_n 1, 1) by decide +kernel) rfl rfl ?_
    refine e_L (L' := [some (aR a), some (aI (v1 + x2)), some (aI (v2 + 1))]) (st' := []) (show decode (mC 27) 24 = .ok (.iinc 2 1, 3) by decide +kernel) rfl rfl ?_
    refine e_go (t := 4) (show decode (mC 27) 27 = .ok (.goto (-23), 3) by decide +kernel) (by decide) ?_
    exact (k7 p1)
/-- SoulOffice$Life.livingAs(I)I, from 0 -/
theorem b28_0 (hG : Shp G) {v1 : Int} {a : Nat} (h_a : Life a)
    (k0 : T d 28 4 [some (aR a), some (aI v1), some (aI 0), some (aI 0)] [] (G, c) Q) :
    T d 28 0 [some (aR a), some (aI v1), none, none] [] (G, c) Q := by
  refine e_P (st' := [aI 0]) (show decode (mC 28) 0 = .ok (.iconst 0, 1) by decide +kernel) rfl rfl rfl ?_
  refine e_L (L' := [some (aR a), some (aI v1), some (aI 0), none]) (st' := []) (show decode (mC 28) 1 = .ok (.istore_n 2, 1) by decide +kernel) rfl rfl ?_
  refine e_P (st' := [aI 0]) (show decode (mC 28) 2 = .ok (.iconst 0, 1) by decide +kernel) rfl rfl rfl ?_
  refine e_L (L' := [some (aR a), some (aI v1), some (aI 0), some (aI 0)]) (st' := []) (show decode (mC 28) 3 = .ok (.istore_n 3, 1) by decide +kernel) rfl rfl ?_
  exact k0
/-- SoulOffice$Life.livingAs(I)I, from 4 -/
theorem b28_4 (hG : Shp G) {v1 v2 v3 x1 x2 : Int} {a : Nat} (h_a : Life a)
    (ex1 : c 9 1 = x1)
    (s1 : -2147483648 ≤ v3 ∧ v3 < 2147483648)
    (s2 : -2147483648 ≤ x1 ∧ x1 < 2147483648)
    (z3 : (x1 ≤ v3) → Q (.inl (some (aI v2))) (G, c))
    (s4 : (v3 < x1) → 0 ≤ v3)
    (s5 : (v3 < x1) → v3 < 8)
    (ex2 : c (a + 1) v3 = x2)
    (s7 : (v3 < x1) → -2147483648 ≤ x2 ∧ x2 < 2147483648)
    (s8 : (v3 < x1) → -2147483648 ≤ v1 ∧ v1 < 2147483648)
    (k9 : (v3 < x1) → (¬ x2 = v1) → T d 28 4 [some (aR a), some (aI v1), some (aI (v2 + 0)), some (aI (v3 + 1))] [] (G, c) Q)
    (k10 : (v3 < x1) → (x2 = v1) → T d 28 4 [some (aR a), some (aI v1), some (aI (v2 + 1)), some (aI (v3 + 1))] [] (G, c) Q) :
    T d 28 4 [some (aR a), some (aI v1), some (aI v2), some (aI v3)] [] (G, c) Q := by
  refine e_L (L' := [some (aR a), some (aI v1), some (aI v2), some (aI v3)]) (st' := [aI v3]) (show decode (mC 28) 4 = .ok (.iload_n 3, 1) by decide +kernel) rfl rfl ?_
  refine e_L (L' := [some (aR a), some (aI v1), some (aI v2), some (aI v3)]) (st' := [aR a, aI v3]) (show decode (mC 28) 5 = .ok (.aload_n 0, 1) by decide +kernel) rfl (by show (if a = 0 then none else some (_, _)) = _; rw [if_neg (show ¬ a = 0 from lf_ne h_a 0)]) ?_
  refine e_getR (w := 9) (show decode (mC 28) 6 = .ok (.getfield 33, 3) by decide +kernel) (show pl 4 33 = some (0, 4, 0, 0) by decide +kernel) (by decide) (lf_ok hG h_a 0 (by decide)) (lf_r0 hG h_a) ?_
  refine e_getIx (show decode (mC 28) 9 = .ok (.getfield 61, 3) by decide +kernel) (show pl 4 61 = some (0, 8, 1, 0) by decide +kernel) (by decide) (sh_ok hG (by decide +kernel)) ex1 ?_
  refine e_ge2 (t := 39) (show decode (mC 28) 12 = .ok (.if_icmp .ge 27, 3) by decide +kernel) (by decide) s1 s2 (fun p1 => ?_) (fun p1 => ?_)
  · refine e_L (L' := [some (aR a), some (aI v1), some (aI v2), some (aI v3)]) (st' := [aI v2]) (show decode (mC 28) 39 = .ok (.iload_n 2, 1) by decide +kernel) rfl rfl ?_
    exact e_iret (show decode (mC 28) 40 = .ok (.ireturn, 1) by decide +kernel) rfl (z3 p1)
  · refine e_L (L' := [some (aR a), some (aI v1), some (aI v2), some (aI v3)]) (st' := [aI v2]) (show decode (mC 28) 15 = .ok (.iload_n 2, 1) by decide +kernel) rfl rfl ?_
    refine e_L (L' := [some (aR a), some (aI v1), some (aI v2), some (aI v3)]) (st' := [aR a, aI v2]) (show decode (mC 28) 16 = .ok (.aload_n 0, 1) by decide +kernel) rfl (by show (if a = 0 then none else some (_, _)) = _; rw [if_neg (show ¬ a = 0 from lf_ne h_a 0)]) ?_
    refine e_getR (w := (a + 1)) (show decode (mC 28) 17 = .ok (.getfield 9, 3) by decide +kernel) (show pl 4 9 = some (0, 4, 4, 0) by decide +kernel) (by decide) (lf_ok hG h_a 0 (by decide)) (lf_rf hG h_a 0 (by decide)) ?_
    refine e_L (L' := [some (aR a), some (aI v1), some (aI v2), some (aI v3)]) (st' := [aI v3, aR (a + 1), aI v2]) (show decode (mC 28) 20 = .ok (.iload_n 3, 1) by decide +kernel) rfl rfl ?_
    refine e_ialdx (n := 8) (show decode (mC 28) 21 = .ok (.iaload, 1) by decide +kernel) (lf_ok hG h_a 1 (by decide)) (lf_ln hG h_a 1 (by decide)) (by decide) (s4 p1) (s5 p1) ex2 ?_
    refine e_L (L' := [some (aR a), some (aI v1), some (aI v2), some (aI v3)]) (st' := [aI v1, aI x2, aI v2]) (show decode (mC 28) 22 = .ok (.iload_n 1, 1) by decide +kernel) rfl rfl ?_
    refine e_ne2 (t := 30) (show decode (mC 28) 23 = .ok (.if_icmp .ne 7, 3) by decide +kernel) (by decide) (s7 p1) (s8 p1) (fun p2 => ?_) (fun p2 => ?_)
    · refine e_P (st' := [aI 0, aI v2]) (show decode (mC 28) 30 = .ok (.iconst 0, 1) by decide +kernel) rfl rfl rfl ?_
      refine e_P (st' := [aI (v2 + 0)]) (show decode (mC 28) 31 = .ok (.iadd, 1) by decide +kernel) rfl rfl rfl ?_
      refine e_L (L' := [some (aR a), some (aI v1), some (aI (v2 + 0)), some (aI v3)]) (st' := []) (show decode (mC 28) 32 = .ok (.istore_n 2, 1) by decide +kernel) rfl rfl ?_
      refine e_L (L' := [some (aR a), some (aI v1), some (aI (v2 + 0)), some (aI (v3 + 1))]) (st' := []) (show decode (mC 28) 33 = .ok (.iinc 3 1, 3) by decide +kernel) rfl rfl ?_
      refine e_go (t := 4) (show decode (mC 28) 36 = .ok (.goto (-32), 3) by decide +kernel) (by decide) ?_
      exact (k9 p1 p2)
    · refine e_P (st' := [aI 1, aI v2]) (show decode (mC 28) 26 = .ok (.iconst 1, 1) by decide +kernel) rfl rfl rfl ?_
      refine e_go (t := 31) (show decode (mC 28) 27 = .ok (.goto 4, 3) by decide +kernel) (by decide) ?_
      refine e_P (st' := [aI (v2 + 1)]) (show decode (mC 28) 31 = .ok (.iadd, 1) by decide +kernel) rfl rfl rfl ?_
      refine e_L (L' := [some (aR a), some (aI v1), some (aI (v2 + 1)), some (aI v3)]) (st' := []) (show decode (mC 28) 32 = .ok (.istore_n 2, 1) by decide +kernel) rfl rfl ?_
      refine e_L (L' := [some (aR a), some (aI v1), some (aI (v2 + 1)), some (aI (v3 + 1))]) (st' := []) (show decode (mC 28) 33 = .ok (.iinc 3 1, 3) by decide +kernel) rfl rfl ?_
      refine e_go (t := 4) (show decode (mC 28) 36 = .ok (.goto (-32), 3) by decide +kernel) (by decide) ?_
      exact (k10 p1 p2)
/-- SoulOffice$Life.whyNot(II)I, from 0 -/
theorem b29_0 (hG : Shp G) {v1 v2 x1 : Int} {a : Nat} (h_a : Life a) (hQ : ∀ o o' h', q_eqo o o' → Q o h' → Q o' h')
    (s0 : 0 ≤ v1)
    (s1 : v1 < 8)
    (ex1 : c (a + 1) v1 = x1)
    (s3 : -2147483648 ≤ x1 ∧ x1 < 2147483648)
    (m4 : (x1 = (-1)) → TM d 72 [aR 9, aI v1, aI v2] (G, c) (fun r h' => T (d + 1) 29 21 [some (aR a), none, some (aI v2)] (r.toList ++ []) h' Q))
    (z5 : (¬ x1 = (-1)) → Q (.inl (some (aI 1))) (G, c)) :
    T (d + 1) 29 0 [some (aR a), some (aI v1), some (aI v2)] [] (G, c) Q := by
  refine e_L (L' := [some (aR a), some (aI v1), some (aI v2)]) (st' := [aR a]) (show decode (mC 29) 0 = .ok (.aload_n 0, 1) by decide +kernel) rfl (by show (if a = 0 then none else some (_, _)) = _; rw [if_neg (show ¬ a = 0 from lf_ne h_a 0)]) ?_
  refine e_getR (w := (a + 1)) (show decode (mC 29) 1 = .ok (.getfield 9, 3) by decide +kernel) (show pl 4 9 = some (0, 4, 4, 0) by decide +kernel) (by decide) (lf_ok hG h_a 0 (by decide)) (lf_rf hG h_a 0 (by decide)) ?_
  refine e_L (L' := [some (aR a), some (aI v1), some (aI v2)]) (st' := [aI v1, aR (a + 1)]) (show decode (mC 29) 4 = .ok (.iload_n 1, 1) by decide +kernel) rfl rfl ?_
  refine e_ialdx (n := 8) (show decode (mC 29) 5 = .ok (.iaload, 1) by decide +kernel) (lf_ok hG h_a 1 (by decide)) (lf_ln hG h_a 1 (by decide)) (by decide) s0 s1 ex1 ?_
  refine e_P (st' := [aI (-1), aI x1]) (show decode (mC 29) 6 = .ok (.iconst (-1), 1) by decide +kernel) rfl rfl rfl ?_
  refine e_eq2 (t := 12) (show decode (mC 29) 7 = .ok (.if_icmp .eq 5, 3) by decide +kernel) (by decide) s3 (by decide) (fun p1 => ?_) (fun p1 => ?_)
  · refine e_L (L' := [some (aR a), some (aI v1), some (aI v2)]) (st' := [aR a]) (show decode (mC 29) 12 = .ok (.aload_n 0, 1) by decide +kernel) rfl (by show (if a = 0 then none else some (_, _)) = _; rw [if_neg (show ¬ a = 0 from lf_ne h_a 0)]) ?_
    refine e_getR (w := 9) (show decode (mC 29) 13 = .ok (.getfield 33, 3) by decide +kernel) (show pl 4 33 = some (0, 4, 0, 0) by decide +kernel) (by decide) (lf_ok hG h_a 0 (by decide)) (lf_r0 hG h_a) ?_
    refine e_L (L' := [some (aR a), some (aI v1), some (aI v2)]) (st' := [aI v1, aR 9]) (show decode (mC 29) 16 = .ok (.iload_n 1, 1) by decide +kernel) rfl rfl ?_
    refine e_L (L' := [some (aR a), some (aI v1), some (aI v2)]) (st' := [aI v2, aI v1, aR 9]) (show decode (mC 29) 17 = .ok (.iload_n 2, 1) by decide +kernel) rfl rfl ?_
    exact e_V (as := [aR 9, aI v1, aI v2]) (rest := []) (show decode (mC 29) 18 = .ok (.invokevirtual 68, 3) by decide +kernel) (by decide +kernel) (show (decide ((3 : Nat) = mA 72) && decide (72 < q_law)) = true by decide +kernel) rfl (show (0 : Nat) ≤ 8 by decide) (show (3 : Nat) ≤ mL 72 by decide +kernel) rfl (sh_ok hG (by decide +kernel)) (tm_le hQ (leS (leN (leS leE))) (m4 p1))
  · refine e_P (st' := [aI 1]) (show decode (mC 29) 10 = .ok (.iconst 1, 1) by decide +kernel) rfl rfl rfl ?_
    exact e_iret (show decode (mC 29) 11 = .ok (.ireturn, 1) by decide +kernel) rfl (z5 p1)
/-- SoulOffice$Life.whyNot(II)I, from 21 -/
theorem b29_21 (hG : Shp G) {v2 u0 x1 : Int} {a : Nat} (h_a : Life a)
    (s0 : -2147483648 ≤ u0 ∧ u0 < 2147483648)
    (s1 : (¬ u0 = 0) → 0 ≤ v2)
    (s2 : (¬ u0 = 0) → v2 < 6)
    (ex1 : c (a + 5) v2 = x1)
    (s4 : (¬ u0 = 0) → -2147483648 ≤ x1 ∧ x1 < 2147483648)
    (z5 : (¬ u0 = 0) → (1 ≤ x1) → Q (.inl (some (aI 0))) (G, c))
    (z6 : (¬ u0 = 0) → (x1 < 1) → Q (.inl (some (aI 3))) (G, c))
    (z7 : (u0 = 0) → Q (.inl (some (aI 2))) (G, c)) :
    T (d + 1) 29 21 [some (aR a), none, some (aI v2)] [aI u0] (G, c) Q := by
  refine e_ne1 (t := 26) (show decode (mC 29) 21 = .ok (.ifCond .ne 5, 3) by decide +kernel) (by decide) s0 (fun p1 => ?_) (fun p1 => ?_)
  · refine e_L (L' := [some (aR a), none, some (aI v2)]) (st' := [aR a]) (show decode (mC 29) 26 = .ok (.aload_n 0, 1) by decide +kernel) rfl (by show (if a = 0 then none else some (_, _)) = _; rw [if_neg (show ¬ a = 0 from lf_ne h_a 0)]) ?_
    refine e_getR (w := (a + 5)) (show decode (mC 29) 27 = .ok (.getfield 24, 3) by decide +kernel) (show pl 4 24 = some (0, 4, 8, 0) by decide +kernel) (by decide) (lf_ok hG h_a 0 (by decide)) (lf_rf hG h_a 4 (by decide)) ?_
    refine e_L (L' := [some (aR a), none, some (aI v2)]) (st' := [aI v2, aR (a + 5)]) (show decode (mC 29) 30 = .ok (.iload_n 2, 1) by decide +kernel) rfl rfl ?_
    refine e_ialdx (n := 6) (show decode (mC 29) 31 = .ok (.iaload, 1) by decide +kernel) (lf_ok hG h_a 5 (by decide)) (lf_ln hG h_a 5 (by decide)) (by decide) (s1 p1) (s2 p1) ex1 ?_
    refine e_P (st' := [aI 1, aI x1]) (show decode (mC 29) 32 = .ok (.iconst 1, 1) by decide +kernel) rfl rfl rfl ?_
    refine e_ge2 (t := 40) (show decode (mC 29) 33 = .ok (.if_icmp .ge 7, 3) by decide +kernel) (by decide) (s4 p1) (by decide) (fun p2 => ?_) (fun p2 => ?_)
    · refine e_P (st' := [aI 0]) (show decode (mC 29) 40 = .ok (.iconst 0, 1) by decide +kernel) rfl rfl rfl ?_
      exact e_iret (show decode (mC 29) 41 = .ok (.ireturn, 1) by decide +kernel) rfl (z5 p1 p2)
    · refine e_P (st' := [aI 3]) (show decode (mC 29) 36 = .ok (.iconst 3, 1) by decide +kernel) rfl rfl rfl ?_
      refine e_go (t := 41) (show decode (mC 29) 37 = .ok (.goto 4, 3) by decide +kernel) (by decide) ?_
      exact e_iret (show decode (mC 29) 41 = .ok (.ireturn, 1) by decide +kernel) rfl (z6 p1 p2)
  · refine e_P (st' := [aI 2]) (show decode (mC 29) 24 = .ok (.iconst 2, 1) by decide +kernel) rfl rfl rfl ?_
    exact e_iret (show decode (mC 29) 25 = .ok (.ireturn, 1) by decide +kernel) rfl (z7 p1)
/-- SoulOffice$Life.giveOut(II)V, from 0 -/
theorem b30_0 (hG : Shp G) {v1 v2 : Int} {a : Nat} (h_a : Life a) (hQ : ∀ o o' h', q_eqo o o' → Q o h' → Q o' h')
    (m0 : TM d 31 [aR a, aI v1, aI v2] (G, c) (fun r h' => T (d + 1) 30 6 [some (aR a), some (aI v1), none] (r.toList ++ []) h' Q)) :
    T (d + 1) 30 0 [some (aR a), some (aI v1), some (aI v2)] [] (G, c) Q := by
  refine e_L (L' := [some (aR a), some (aI v1), some (aI v2)]) (st' := [aR a]) (show decode (mC 30) 0 = .ok (.aload_n 0, 1) by decide +kernel) rfl (by show (if a = 0 then none else some (_, _)) = _; rw [if_neg (show ¬ a = 0 from lf_ne h_a 0)]) ?_
  refine e_L (L' := [some (aR a), some (aI v1), some (aI v2)]) (st' := [aI v1, aR a]) (show decode (mC 30) 1 = .ok (.iload_n 1, 1) by decide +kernel) rfl rfl ?_
  refine e_L (L' := [some (aR a), some (aI v1), some (aI v2)]) (st' := [aI v2, aI v1, aR a]) (show decode (mC 30) 2 = .ok (.iload_n 2, 1) by decide +kernel) rfl rfl ?_
  exact e_V (as := [aR a, aI v1, aI v2]) (rest := []) (show decode (mC 30) 3 = .ok (.invokevirtual 72, 3) by decide +kernel) (by decide +kernel) (show (decide ((3 : Nat) = mA 31) && decide (31 < q_law)) = true by decide +kernel) rfl (show (0 : Nat) ≤ 8 by decide) (show (3 : Nat) ≤ mL 31 by decide +kernel) rfl (lf_ok hG h_a 0 (by decide)) (tm_le hQ (leS (leS (leN leE))) m0)
/-- SoulOffice$Life.giveOut(II)V, from 6 -/
theorem b30_6 (hG : Shp G) {v1 x1 : Int} {a : Nat} (h_a : Life a)
    (s0 : 0 ≤ v1)
    (s1 : v1 < 8)
    (ex1 : c (a + 3) v1 = x1)
    (z3 : Q (.inl none) (G, (q_up (q_up c (a + 3) v1 (x1 + 1)) (a + 4) v1 1))) :
    T (d + 1) 30 6 [some (aR a), some (aI v1), none] [] (G, c) Q := by
  refine e_L (L' := [some (aR a), some (aI v1), none]) (st' := [aR a]) (show decode (mC 30) 6 = .ok (.aload_n 0, 1) by decide +kernel) rfl (by show (if a = 0 then none else some (_, _)) = _; rw [if_neg (show ¬ a = 0 from lf_ne h_a 0)]) ?_
  refine e_getR (w := (a + 3)) (show decode (mC 30) 7 = .ok (.getfield 18, 3) by decide +kernel) (show pl 4 18 = some (0, 4, 6, 0) by decide +kernel) (by decide) (lf_ok hG h_a 0 (by decide)) (lf_rf hG h_a 2 (by decide)) ?_
  refine e_L (L' := [some (aR a), some (aI v1), none]) (st' := [aI v1, aR (a + 3)]) (show decode (mC 30) 10 = .ok (.iload_n 1, 1) by decide +kernel) rfl rfl ?_
  refine e_P (st' := [aI v1, aR (a + 3), aI v1, aR (a + 3)]) (show decode (mC 30) 11 = .ok (.dup2, 1) by decide +kernel) rfl rfl rfl ?_
  refine e_ialdx (n := 8) (show decode (mC 30) 12 = .ok (.iaload, 1) by decide +kernel) (lf_ok hG h_a 3 (by decide)) (lf_ln hG h_a 3 (by decide)) (by decide) s0 s1 ex1 ?_
  refine e_P (st' := [aI 1, aI x1, aI v1, aR (a + 3)]) (show decode (mC 30) 13 = .ok (.iconst 1, 1) by decide +kernel) rfl rfl rfl ?_
  refine e_P (st' := [aI (x1 + 1), aI v1, aR (a + 3)]) (show decode (mC 30) 14 = .ok (.iadd, 1) by decide +kernel) rfl rfl rfl ?_
  refine e_iast (n := 8) (show decode (mC 30) 15 = .ok (.iastore, 1) by decide +kernel) (lf_ok hG h_a 3 (by decide)) (lf_ln hG h_a 3 (by decide)) (by decide) s0 s1 ?_
  refine e_L (L' := [some (aR a), some (aI v1), none]) (st' := [aR a]) (show decode (mC 30) 16 = .ok (.aload_n 0, 1) by decide +kernel) rfl (by show (if a = 0 then none else some (_, _)) = _; rw [if_neg (show ¬ a = 0 from lf_ne h_a 0)]) ?_
  refine e_getR (w := (a + 4)) (show decode (mC 30) 17 = .ok (.getfield 21, 3) by decide +kernel) (show pl 4 21 = some (0, 4, 7, 0) by decide +kernel) (by decide) (lf_ok hG h_a 0 (by decide)) (lf_rf hG h_a 3 (by decide)) ?_
  refine e_L (L' := [some (aR a), some (aI v1), none]) (st' := [aI v1, aR (a + 4)]) (show decode (mC 30) 20 = .ok (.iload_n 1, 1) by decide +kernel) rfl rfl ?_
  refine e_P (st' := [aI 1, aI v1, aR (a + 4)]) (show decode (mC 30) 21 = .ok (.iconst 1, 1) by decide +kernel) rfl rfl rfl ?_
  refine e_iast (n := 8) (show decode (mC 30) 22 = .ok (.iastore, 1) by decide +kernel) (lf_ok hG h_a 4 (by decide)) (lf_ln hG h_a 4 (by decide)) (by decide) s0 s1 ?_
  exact e_vret (show decode (mC 30) 23 = .ok (.return_, 1) by decide +kernel) rfl z3
/-- SoulOffice$Life.become(II)V, from 0 -/
theorem b31_0 (hG : Shp G) {v1 v2 x1 x2 : Int} {a : Nat} (h_a : Life a)
    (s0 : 0 ≤ v1)
    (s1 : v1 < 8)
    (s2 : 0 ≤ v2)
    (s3 : v2 < 6)
    (ex1 : (q_up c (a + 1) v1 v2) 12 v2 = x1)
    (ex2 : (q_up (q_up c (a + 1) v1 v2) (a + 2) v1 x1) (a + 5) v2 = x2)
    (z6 : Q (.inl none) (G, (q_up (q_up (q_up c (a + 1) v1 v2) (a + 2) v1 x1) (a + 5) v2 (x2 - 1)))) :
    T d 31 0 [some (aR a), some (aI v1), some (aI v2)] [] (G, c) Q := by
  refine e_L (L' := [some (aR a), some (aI v1), some (aI v2)]) (st' := [aR a]) (show decode (mC 31) 0 = .ok (.aload_n 0, 1) by decide +kernel) rfl (by show (if a = 0 then none else some (_, _)) = _; rw [if_neg (show ¬ a = 0 from lf_ne h_a 0)]) ?_
  refine e_getR (w := (a + 1)) (show decode (mC 31) 1 = .ok (.getfield 9, 3) by decide +kernel) (show pl 4 9 = some (0, 4, 4, 0) by decide +kernel) (by decide) (lf_ok hG h_a 0 (by decide)) (lf_rf hG h_a 0 (by decide)) ?_
  refine e_L (L' := [some (aR a), some (aI v1), some (aI v2)]) (st' := [aI v1, aR (a + 1)]) (show decode (mC 31) 4 = .ok (.iload_n 1, 1) by decide +kernel) rfl rfl ?_
  refine e_L (L' := [some (aR a), some (aI v1), some (aI v2)]) (st' := [aI v2, aI v1, aR (a + 1)]) (show decode (mC 31) 5 = .ok (.iload_n 2, 1) by decide +kernel) rfl rfl ?_
  refine e_iast (n := 8) (show decode (mC 31) 6 = .ok (.iastore, 1) by decide +kernel) (lf_ok hG h_a 1 (by decide)) (lf_ln hG h_a 1 (by decide)) (by decide) s0 s1 ?_
  refine e_L (L' := [some (aR a), some (aI v1), some (aI v2)]) (st' := [aR a]) (show decode (mC 31) 7 = .ok (.aload_n 0, 1) by decide +kernel) rfl (by show (if a = 0 then none else some (_, _)) = _; rw [if_neg (show ¬ a = 0 from lf_ne h_a 0)]) ?_
  refine e_getR (w := (a + 2)) (show decode (mC 31) 8 = .ok (.getfield 15, 3) by decide +kernel) (show pl 4 15 = some (0, 4, 5, 0) by decide +kernel) (by decide) (lf_ok hG h_a 0 (by decide)) (lf_rf hG h_a 1 (by decide)) ?_
  refine e_L (L' := [some (aR a), some (aI v1), some (aI v2)]) (st' := [aI v1, aR (a + 2)]) (show decode (mC 31) 11 = .ok (.iload_n 1, 1) by decide +kernel) rfl rfl ?_
  refine e_L (L' := [some (aR a), some (aI v1), some (aI v2)]) (st' := [aR a, aI v1, aR (a + 2)]) (show decode (mC 31) 12 = .ok (.aload_n 0, 1) by decide +kernel) rfl (by show (if a = 0 then none else some (_, _)) = _; rw [if_neg (show ¬ a = 0 from lf_ne h_a 0)]) ?_
  refine e_getR (w := 9) (show decode (mC 31) 13 = .ok (.getfield 33, 3) by decide +kernel) (show pl 4 33 = some (0, 4, 0, 0) by decide +kernel) (by decide) (lf_ok hG h_a 0 (by decide)) (lf_r0 hG h_a) ?_
  refine e_getR (w := 12) (show decode (mC 31) 16 = .ok (.getfield 76, 3) by decide +kernel) (show pl 4 76 = some (0, 8, 5, 0) by decide +kernel) (by decide) (sh_ok hG (by decide +kernel)) (sh_rf hG (by decide +kernel)) ?_
  refine e_L (L' := [some (aR a), some (aI v1), some (aI v2)]) (st' := [aI v2, aR 12, aI v1, aR (a + 2)]) (show decode (mC 31) 19 = .ok (.iload_n 2, 1) by decide +kernel) rfl rfl ?_
  refine e_ialdx (n := 6) (show decode (mC 31) 20 = .ok (.iaload, 1) by decide +kernel) (sh_ok hG (by decide +kernel)) (sh_ln hG (by decide +kernel)) (by decide) s2 s3 ex1 ?_
  refine e_iast (n := 8) (show decode (mC 31) 21 = .ok (.iastore, 1) by decide +kernel) (lf_ok hG h_a 2 (by decide)) (lf_ln hG h_a 2 (by decide)) (by decide) s0 s1 ?_
  refine e_L (L' := [some (aR a), some (aI v1), some (aI v2)]) (st' := [aR a]) (show decode (mC 31) 22 = .ok (.aload_n 0, 1) by decide +kernel) rfl (by show (if a = 0 then none else some (_, _)) = _; rw [if_neg (show ¬ a = 0 from lf_ne h_a 0)]) ?_
  refine e_getR (w := (a + 5)) (show decode (mC 31) 23 = .ok (.getfield 24, 3) by decide +kernel) (show pl 4 24 = some (0, 4, 8, 0) by decide +kernel) (by decide) (lf_ok hG h_a 0 (by decide)) (lf_rf hG h_a 4 (by decide)) ?_
  refine e_L (L' := [some (aR a), some (aI v1), some (aI v2)]) (st' := [aI v2, aR (a + 5)]) (show decode (mC 31) 26 = .ok (.iload_n 2, 1) by decide +kernel) rfl rfl ?_
  refine e_P (st' := [aI v2, aR (a + 5), aI v2, aR (a + 5)]) (show decode (mC 31) 27 = .ok (.dup2, 1) by decide +kernel) rfl rfl rfl ?_
  refine e_ialdx (n := 6) (show decode (mC 31) 28 = .ok (.iaload, 1) by decide +kernel) (lf_ok hG h_a 5 (by decide)) (lf_ln hG h_a 5 (by decide)) (by decide) s2 s3 ex2 ?_
  refine e_P (st' := [aI 1, aI x2, aI v2, aR (a + 5)]) (show decode (mC 31) 29 = .ok (.iconst 1, 1) by decide +kernel) rfl rfl rfl ?_
  refine e_P (st' := [aI (x2 - 1), aI v2, aR (a + 5)]) (show decode (mC 31) 30 = .ok (.isub, 1) by decide +kernel) rfl rfl rfl ?_
  refine e_iast (n := 6) (show decode (mC 31) 31 = .ok (.iastore, 1) by decide +kernel) (lf_ok hG h_a 5 (by decide)) (lf_ln hG h_a 5 (by decide)) (by decide) s2 s3 ?_
  exact e_vret (show decode (mC 31) 32 = .ok (.return_, 1) by decide +kernel) rfl z6
/-- SoulOffice$Life.canPass(I)Z, from 0 -/
theorem b32_0 (hG : Shp G) {v1 x1 : Int} {a : Nat} (h_a : Life a)
    (s0 : -2147483648 ≤ v1 ∧ v1 < 2147483648)
    (z1 : (v1 < 1) → Q (.inl (some (aI 0))) (G, c))
    (z2 : (1 ≤ v1) → (60 < v1) → Q (.inl (some (aI 0))) (G, c))
    (ex1 : c a 1 = x1)
    (s4 : (1 ≤ v1) → (v1 ≤ 60) → -2147483648 ≤ x1 ∧ x1 < 2147483648)
    (s5 : (1 ≤ v1) → (v1 ≤ 60) → -2147483648 ≤ (9999 - v1) ∧ (9999 - v1) < 2147483648)
    (z6 : (1 ≤ v1) → (v1 ≤ 60) → ((9999 - v1) < x1) → Q (.inl (some (aI 0))) (G, c))
    (z7 : (1 ≤ v1) → (v1 ≤ 60) → (x1 ≤ (9999 - v1)) → Q (.inl (some (aI 1))) (G, c)) :
    T d 32 0 [some (aR a), some (aI v1)] [] (G, c) Q := by
  refine e_L (L' := [some (aR a), some (aI v1)]) (st' := [aI v1]) (show decode (mC 32) 0 = .ok (.iload_n 1, 1) by decide +kernel) rfl rfl ?_
  refine e_P (st' := [aI 1, aI v1]) (show decode (mC 32) 1 = .ok (.iconst 1, 1) by decide +kernel) rfl rfl rfl ?_
  refine e_lt2 (t := 27) (show decode (mC 32) 2 = .ok (.if_icmp .lt 25, 3) by decide +kernel) (by decide) s0 (by decide) (fun p1 => ?_) (fun p1 => ?_)
  · refine e_P (st' := [aI 0]) (show decode (mC 32) 27 = .ok (.iconst 0, 1) by decide +kernel) rfl rfl rfl ?_
    exact e_zret (show decode (mC 32) 28 = .ok (.ireturn, 1) by decide +kernel) rfl (by decide) (z1 p1)
  · refine e_L (L' := [some (aR a), some (aI v1)]) (st' := [aI v1]) (show decode (mC 32) 5 = .ok (.iload_n 1, 1) by decide +kernel) rfl rfl ?_
    refine e_P (st' := [aI 60, aI v1]) (show decode (mC 32) 6 = .ok (.bipush 60, 2) by decide +kernel) rfl rfl rfl ?_
    refine e_gt2 (t := 27) (show decode (mC 32) 8 = .ok (.if_icmp .gt 19, 3) by decide +kernel) (by decide) s0 (by decide) (fun p2 => ?_) (fun p2 => ?_)
    · refine e_P (st' := [aI 0]) (show decode (mC 32) 27 = .ok (.iconst 0, 1) by decide +kernel) rfl rfl rfl ?_
      exact e_zret (show decode (mC 32) 28 = .ok (.ireturn, 1) by decide +kernel) rfl (by decide) (z2 p1 p2)
    · refine e_L (L' := [some (aR a), some (aI v1)]) (st' := [aR a]) (show decode (mC 32) 11 = .ok (.aload_n 0, 1) by decide +kernel) rfl (by show (if a = 0 then none else some (_, _)) = _; rw [if_neg (show ¬ a = 0 from lf_ne h_a 0)]) ?_
      refine e_getIx (show decode (mC 32) 12 = .ok (.getfield 37, 3) by decide +kernel) (show pl 4 37 = some (0, 4, 1, 0) by decide +kernel) (by decide) (lf_ok hG h_a 0 (by decide)) ex1 ?_
      refine e_P (st' := [aI 9999, aI x1]) (show decode (mC 32) 15 = .ok (.sipush 9999, 3) by decide +kernel) rfl rfl rfl ?_
      refine e_L (L' := [some (aR a), some (aI v1)]) (st' := [aI v1, aI 9999, aI x1]) (show decode (mC 32) 18 = .ok (.iload_n 1, 1) by decide +kernel) rfl rfl ?_
      refine e_P (st' := [aI (9999 - v1), aI x1]) (show decode (mC 32) 19 = .ok (.isub, 1) by decide +kernel) rfl rfl rfl ?_
      refine e_gt2 (t := 27) (show decode (mC 32) 20 = .ok (.if_icmp .gt 7, 3) by decide +kernel) (by decide) (s4 p1 p2) (s5 p1 p2) (fun p3 => ?_) (fun p3 => ?_)
      · refine e_P (st' := [aI 0]) (show decode (mC 32) 27 = .ok (.iconst 0, 1) by decide +kernel) rfl rfl rfl ?_
        exact e_zret (show decode (mC 32) 28 = .ok (.ireturn, 1) by decide +kernel) rfl (by decide) (z6 p1 p2 p3)
      · refine e_P (st' := [aI 1]) (show decode (mC 32) 23 = .ok (.iconst 1, 1) by decide +kernel) rfl rfl rfl ?_
        refine e_go (t := 28) (show decode (mC 32) 24 = .ok (.goto 4, 3) by decide +kernel) (by decide) ?_
        exact e_zret (show decode (mC 32) 28 = .ok (.ireturn, 1) by decide +kernel) rfl (by decide) (z7 p1 p2 p3)
/-- SoulOffice$Life.passDays(I)V, from 0 -/
theorem b33_0 (hG : Shp G) {v1 : Int} {a : Nat} (h_a : Life a)
    (k0 : T (d + 1) 33 2 [some (aR a), some (aI v1), some (aI 0)] [] (G, c) Q) :
    T (d + 1) 33 0 [some (aR a), some (aI v1), none] [] (G, c) Q := by
  refine e_P (st' := [aI 0]) (show decode (mC 33) 0 = .ok (.iconst 0, 1) by decide +kernel) rfl rfl rfl ?_
  refine e_L (L' := [some (aR a), some (aI v1), some (aI 0)]) (st' := []) (show decode (mC 33) 1 = .ok (.istore_n 2, 1) by decide +kernel) rfl rfl ?_
  exact k0
/-- SoulOffice$Life.passDays(I)V, from 2 -/
theorem b33_2 (hG : Shp G) {v1 v2 : Int} {a : Nat} (h_a : Life a)
    (s0 : -2147483648 ≤ v2 ∧ v2 < 2147483648)
    (s1 : -2147483648 ≤ v1 ∧ v1 < 2147483648)
    (z2 : (v1 ≤ v2) → Q (.inl none) (G, c))
    (m3 : (v2 < v1) → TM d 38 [aR a] (G, c) (fun r h' => T (d + 1) 33 11 [some (aR a), some (aI v1), some (aI v2)] (r.toList ++ []) h' Q)) :
    T (d + 1) 33 2 [some (aR a), some (aI v1), some (aI v2)] [] (G, c) Q := by
  refine e_L (L' := [some (aR a), some (aI v1), some (aI v2)]) (st' := [aI v2]) (show decode (mC 33) 2 = .ok (.iload_n 2, 1) by decide +kernel) rfl rfl ?_
  refine e_L (L' := [some (aR a), some (aI v1), some (aI v2)]) (st' := [aI v1, aI v2]) (show decode (mC 33) 3 = .ok (.iload_n 1, 1) by decide +kernel) rfl rfl ?_
  refine e_ge2 (t := 17) (show decode (mC 33) 4 = .ok (.if_icmp .ge 13, 3) by decide +kernel) (by decide) s0 s1 (fun p1 => ?_) (fun p1 => ?_)
  · exact e_vret (show decode (mC 33) 17 = .ok (.return_, 1) by decide +kernel) rfl (z2 p1)
  · refine e_L (L' := [some (aR a), some (aI v1), some (aI v2)]) (st' := [aR a]) (show decode (mC 33) 7 = .ok (.aload_n 0, 1) by decide +kernel) rfl (by show (if a = 0 then none else some (_, _)) = _; rw [if_neg (show ¬ a = 0 from lf_ne h_a 0)]) ?_
    exact e_V (as := [aR a]) (rest := []) (show decode (mC 33) 8 = .ok (.invokevirtual 79, 3) by decide +kernel) (by decide +kernel) (show (decide ((1 : Nat) = mA 38) && decide (38 < q_law)) = true by decide +kernel) rfl (show (0 : Nat) ≤ 8 by decide) (show (1 : Nat) ≤ mL 38 by decide +kernel) rfl (lf_ok hG h_a 0 (by decide)) (m3 p1)
/-- SoulOffice$Life.passDays(I)V, from 11 -/
theorem b33_11 (hG : Shp G) {v1 v2 : Int} {a : Nat} (h_a : Life a)
    (k0 : T (d + 1) 33 2 [some (aR a), some (aI v1), some (aI (v2 + 1))] [] (G, c) Q) :
    T (d + 1) 33 11 [some (aR a), some (aI v1), some (aI v2)] [] (G, c) Q := by
  refine e_L (L' := [some (aR a), some (aI v1), some (aI (v2 + 1))]) (st' := []) (show decode (mC 33) 11 = .ok (.iinc 2 1, 3) by decide +kernel) rfl rfl ?_
  refine e_go (t := 2) (show decode (mC 33) 14 = .ok (.goto (-12), 3) by decide +kernel) (by decide) ?_
  exact k0
/-- SoulOffice$Life.passClerkDays(I)V, from 0 -/
theorem b34_0 (hG : Shp G) {v1 : Int} {a : Nat} (h_a : Life a)
    (k0 : T (d + 1) 34 2 [some (aR a), some (aI v1), some (aI 0)] [] (G, c) Q) :
    T (d + 1) 34 0 [some (aR a), some (aI v1), none] [] (G, c) Q := by
  refine e_P (st' := [aI 0]) (show decode (mC 34) 0 = .ok (.iconst 0, 1) by decide +kernel) rfl rfl rfl ?_
  refine e_L (L' := [some (aR a), some (aI v1), some (aI 0)]) (st' := []) (show decode (mC 34) 1 = .ok (.istore_n 2, 1) by decide +kernel) rfl rfl ?_
  exact k0
/-- SoulOffice$Life.passClerkDays(I)V, from 2 -/
theorem b34_2 (hG : Shp G) {v1 v2 : Int} {a : Nat} (h_a : Life a)
    (s0 : -2147483648 ≤ v2 ∧ v2 < 2147483648)
    (s1 : -2147483648 ≤ v1 ∧ v1 < 2147483648)
    (z2 : (v1 ≤ v2) → Q (.inl none) (G, c))
    (m3 : (v2 < v1) → TM d 36 [aR a] (G, c) (fun r h' => T (d + 1) 34 11 [some (aR a), some (aI v1), some (aI v2)] (r.toList ++ []) h' Q)) :
    T (d + 1) 34 2 [some (aR a), some (aI v1), some (aI v2)] [] (G, c) Q := by
  refine e_L (L' := [some (aR a), some (aI v1), some (aI v2)]) (st' := [aI v2]) (show decode (mC 34) 2 = .ok (.iload_n 2, 1) by decide +kernel) rfl rfl ?_
  refine e_L (L' := [some (aR a), some (aI v1), some (aI v2)]) (st' := [aI v1, aI v2]) (show decode (mC 34) 3 = .ok (.iload_n 1, 1) by decide +kernel) rfl rfl ?_
  refine e_ge2 (t := 21) (show decode (mC 34) 4 = .ok (.if_icmp .ge 17, 3) by decide +kernel) (by decide) s0 s1 (fun p1 => ?_) (fun p1 => ?_)
  · exact e_vret (show decode (mC 34) 21 = .ok (.return_, 1) by decide +kernel) rfl (z2 p1)
  · refine e_L (L' := [some (aR a), some (aI v1), some (aI v2)]) (st' := [aR a]) (show decode (mC 34) 7 = .ok (.aload_n 0, 1) by decide +kernel) rfl (by show (if a = 0 then none else some (_, _)) = _; rw [if_neg (show ¬ a = 0 from lf_ne h_a 0)]) ?_
    exact e_V (as := [aR a]) (rest := []) (show decode (mC 34) 8 = .ok (.invokevirtual 82, 3) by decide +kernel) (by decide +kernel) (show (decide ((1 : Nat) = mA 36) && decide (36 < q_law)) = true by decide +kernel) rfl (show (0 : Nat) ≤ 8 by decide) (show (1 : Nat) ≤ mL 36 by decide +kernel) rfl (lf_ok hG h_a 0 (by decide)) (m3 p1)
/-- SoulOffice$Life.passClerkDays(I)V, from 11 -/
theorem b34_11 (hG : Shp G) {v1 v2 : Int} {a : Nat} (h_a : Life a)
    (m0 : TM d 38 [aR a] (G, c) (fun r h' => T (d + 1) 34 15 [some (aR a), some (aI v1), some (aI v2)] (r.toList ++ []) h' Q)) :
    T (d + 1) 34 11 [some (aR a), some (aI v1), some (aI v2)] [] (G, c) Q := by
  refine e_L (L' := [some (aR a), some (aI v1), some (aI v2)]) (st' := [aR a]) (show decode (mC 34) 11 = .ok (.aload_n 0, 1) by decide +kernel) rfl (by show (if a = 0 then none else some (_, _)) = _; rw [if_neg (show ¬ a = 0 from lf_ne h_a 0)]) ?_
  exact e_V (as := [aR a]) (rest := []) (show decode (mC 34) 12 = .ok (.invokevirtual 79, 3) by decide +kernel) (by decide +kernel) (show (decide ((1 : Nat) = mA 38) && decide (38 < q_law)) = true by decide +kernel) rfl (show (0 : Nat) ≤ 8 by decide) (show (1 : Nat) ≤ mL 38 by decide +kernel) rfl (lf_ok hG h_a 0 (by decide)) m0
/-- SoulOffice$Life.passClerkDays(I)V, from 15 -/
theorem b34_15 (hG : Shp G) {v1 v2 : Int} {a : Nat} (h_a : Life a)
    (k0 : T (d + 1) 34 2 [some (aR a), some (aI v1), some (aI (v2 + 1))] [] (G, c) Q) :
    T (d + 1) 34 15 [some (aR a), some (aI v1), some (aI v2)] [] (G, c) Q := by
  refine e_L (L' := [some (aR a), some (aI v1), some (aI (v2 + 1))]) (st' := []) (show decode (mC 34) 15 = .ok (.iinc 2 1, 3) by decide +kernel) rfl rfl ?_
  refine e_go (t := 2) (show decode (mC 34) 18 = .ok (.goto (-16), 3) by decide +kernel) (by decide) ?_
  exact k0
/-- SoulOffice$Life.passDrawnDays(II)V, from 0 -/
theorem b35_0 (hG : Shp G) {v1 v2 x1 : Int} {a : Nat} (h_a : Life a) (hQ : ∀ o o' h', q_eqo o o' → Q o h' → Q o' h')
    (ex1 : c 9 0 = x1)
    (s1 : -2147483648 ≤ x1 ∧ x1 < 2147483648)
    (k2 : (1 ≤ x1) → T (d + 1) 35 17 [some (aR a), some (aI v1), none, some (aI v2), some (aI 0), none, none] [] (G, c) Q)
    (z3 : (x1 < 1) → Q (.inl none) (G, c)) :
    T (d + 1) 35 0 [some (aR a), some (aI v1), some (aI v2), none, none, none, none] [] (G, c) Q := by
  refine e_L (L' := [some (aR a), some (aI v1), some (aI v2), none, none, none, none]) (st' := [aR a]) (show decode (mC 35) 0 = .ok (.aload_n 0, 1) by decide +kernel) rfl (by show (if a = 0 then none else some (_, _)) = _; rw [if_neg (show ¬ a = 0 from lf_ne h_a 0)]) ?_
  refine e_getR (w := 9) (show decode (mC 35) 1 = .ok (.getfield 33, 3) by decide +kernel) (show pl 4 33 = some (0, 4, 0, 0) by decide +kernel) (by decide) (lf_ok hG h_a 0 (by decide)) (lf_r0 hG h_a) ?_
  refine e_getIx (show decode (mC 35) 4 = .ok (.getfield 85, 3) by decide +kernel) (show pl 4 85 = some (0, 8, 0, 0) by decide +kernel) (by decide) (sh_ok hG (by decide +kernel)) ex1 ?_
  refine e_P (st' := [aI 1, aI x1]) (show decode (mC 35) 7 = .ok (.iconst 1, 1) by decide +kernel) rfl rfl rfl ?_
  refine e_ge2 (t := 12) (show decode (mC 35) 8 = .ok (.if_icmp .ge 4, 3) by decide +kernel) (by decide) s1 (by decide) (fun p1 => ?_) (fun p1 => ?_)
  · refine e_L (L' := [some (aR a), some (aI v1), some (aI v2), none, none, none, none]) (st' := [aI v2]) (show decode (mC 35) 12 = .ok (.iload_n 2, 1) by decide +kernel) rfl rfl ?_
    refine e_L (L' := [some (aR a), some (aI v1), some (aI v2), some (aI v2), none, none, none]) (st' := []) (show decode (mC 35) 13 = .ok (.istore_n 3, 1) by decide +kernel) rfl rfl ?_
    refine e_P (st' := [aI 0]) (show decode (mC 35) 14 = .ok (.iconst 0, 1) by decide +kernel) rfl rfl rfl ?_
    refine e_L (L' := [some (aR a), some (aI v1), some (aI v2), some (aI v2), some (aI 0), none, none]) (st' := []) (show decode (mC 35) 15 = .ok (.istore 4, 2) by decide +kernel) rfl rfl ?_
    exact T_le hQ (leS (leS (leN (leS (leS (leS (leS leE))))))) (k2 p1)
  · exact e_vret (show decode (mC 35) 11 = .ok (.return_, 1) by decide +kernel) rfl (z3 p1)
/-- SoulOffice$Life.passDrawnDays(II)V, from 17 -/
theorem b35_17 (hG : Shp G) {v1 v3 v4 : Int} {a : Nat} (h_a : Life a)
    (s0 : -2147483648 ≤ v4 ∧ v4 < 2147483648)
    (s1 : -2147483648 ≤ v1 ∧ v1 < 2147483648)
    (z2 : (v1 ≤ v4) → Q (.inl none) (G, c))
    (k3 : (v4 < v1) → T (d + 1) 35 26 [some (aR a), some (aI v1), none, some (aI v3), some (aI v4), some (aI 0), none] [] (G, c) Q) :
    T (d + 1) 35 17 [some (aR a), some (aI v1), none, some (aI v3), some (aI v4), none, none] [] (G, c) Q := by
  refine e_L (L' := [some (aR a), some (aI v1), none, some (aI v3), some (aI v4), none, none]) (st' := [aI v4]) (show decode (mC 35) 17 = .ok (.iload 4, 2) by decide +kernel) rfl rfl ?_
  refine e_L (L' := [some (aR a), some (aI v1), none, some (aI v3), some (aI v4), none, none]) (st' := [aI v1, aI v4]) (show decode (mC 35) 19 = .ok (.iload_n 1, 1) by decide +kernel) rfl rfl ?_
  refine e_ge2 (t := 107) (show decode (mC 35) 20 = .ok (.if_icmp .ge 87, 3) by decide +kernel) (by decide) s0 s1 (fun p1 => ?_) (fun p1 => ?_)
  · exact e_vret (show decode (mC 35) 107 = .ok (.return_, 1) by decide +kernel) rfl (z2 p1)
  · refine e_P (st' := [aI 0]) (show decode (mC 35) 23 = .ok (.iconst 0, 1) by decide +kernel) rfl rfl rfl ?_
    refine e_L (L' := [some (aR a), some (aI v1), none, some (aI v3), some (aI v4), some (aI 0), none]) (st' := []) (show decode (mC 35) 24 = .ok (.istore 5, 2) by decide +kernel) rfl rfl ?_
    exact (k3 p1)
/-- SoulOffice$Life.passDrawnDays(II)V, from 26 -/
theorem b35_26 (hG : Shp G) {v1 v3 v4 v5 x1 x2 x3 : Int} {a : Nat} (h_a : Life a) (hQ : ∀ o o' h', q_eqo o o' → Q o h' → Q o' h')
    (ex1 : c 9 1 = x1)
    (s1 : -2147483648 ≤ v5 ∧ v5 < 2147483648)
    (s2 : -2147483648 ≤ x1 ∧ x1 < 2147483648)
    (m3 : (x1 ≤ v5) → TM d 38 [aR a] (G, c) (fun r h' => T (d + 1) 35 101 [some (aR a), some (aI v1), none, some (aI v3), some (aI v4), none, none] (r.toList ++ []) h' Q))
    (s4 : (v5 < x1) → 0 ≤ v5)
    (s5 : (v5 < x1) → v5 < 8)
    (ex2 : c (a + 1) v5 = x2)
    (s7 : (v5 < x1) → -2147483648 ≤ x2 ∧ x2 < 2147483648)
    (k8 : (v5 < x1) → (¬ x2 = (-1)) → T (d + 1) 35 91 [some (aR a), some (aI v1), none, some (aI v3), some (aI v4), some (aI v5), none] [] (G, c) Q)
    (ex3 : c 9 0 = x3)
    (s10 : (v5 < x1) → (x2 = (-1)) → ¬ Int32.ofInt x3 = 0)
    (m11 : (v5 < x1) → (x2 = (-1)) → TM d 29 [aR a, aI v5, aI (q_rem (q_ush ((v3 * 1103515245) + 12345) 8) x3)] (G, c) (fun r h' => T (d + 1) 35 80 [some (aR a), some (aI v1), none, some (aI ((v3 * 1103515245) + 12345)), some (aI v4), some (aI v5), some (aI (q_rem (q_ush ((v3 * 1103515245) + 12345) 8) x3))] (r.toList ++ []) h' Q)) :
    T (d + 1) 35 26 [some (aR a), some (aI v1), none, some (aI v3), some (aI v4), some (aI v5), none] [] (G, c) Q := by
  refine e_L (L' := [some (aR a), some (aI v1), none, some (aI v3), some (aI v4), some (aI v5), none]) (st' := [aI v5]) (show decode (mC 35) 26 = .ok (.iload 5, 2) by decide +kernel) rfl rfl ?_
  refine e_L (L' := [some (aR a), some (aI v1), none, some (aI v3), some (aI v4), some (aI v5), none]) (st' := [aR a, aI v5]) (show decode (mC 35) 28 = .ok (.aload_n 0, 1) by decide +kernel) rfl (by show (if a = 0 then none else some (_, _)) = _; rw [if_neg (show ¬ a = 0 from lf_ne h_a 0)]) ?_
  refine e_getR (w := 9) (show decode (mC 35) 29 = .ok (.getfield 33, 3) by decide +kernel) (show pl 4 33 = some (0, 4, 0, 0) by decide +kernel) (by decide) (lf_ok hG h_a 0 (by decide)) (lf_r0 hG h_a) ?_
  refine e_getIx (show decode (mC 35) 32 = .ok (.getfield 61, 3) by decide +kernel) (show pl 4 61 = some (0, 8, 1, 0) by decide +kernel) (by decide) (sh_ok hG (by decide +kernel)) ex1 ?_
  refine e_ge2 (t := 97) (show decode (mC 35) 35 = .ok (.if_icmp .ge 62, 3) by decide +kernel) (by decide) s1 s2 (fun p1 => ?_) (fun p1 => ?_)
  · refine e_L (L' := [some (aR a), some (aI v1), none, some (aI v3), some (aI v4), some (aI v5), none]) (st' := [aR a]) (show decode (mC 35) 97 = .ok (.aload_n 0, 1) by decide +kernel) rfl (by show (if a = 0 then none else some (_, _)) = _; rw [if_neg (show ¬ a = 0 from lf_ne h_a 0)]) ?_
    exact e_V (as := [aR a]) (rest := []) (show decode (mC 35) 98 = .ok (.invokevirtual 79, 3) by decide +kernel) (by decide +kernel) (show (decide ((1 : Nat) = mA 38) && decide (38 < q_law)) = true by decide +kernel) rfl (show (0 : Nat) ≤ 8 by decide) (show (1 : Nat) ≤ mL 38 by decide +kernel) rfl (lf_ok hG h_a 0 (by decide)) (tm_le hQ (leS (leS (leS (leS (leS (leN (leS leE))))))) (m3 p1))
  · refine e_L (L' := [some (aR a), some (aI v1), none, some (aI v3), some (aI v4), some (aI v5), none]) (st' := [aR a]) (show decode (mC 35) 38 = .ok (.aload_n 0, 1) by decide +kernel) rfl (by show (if a = 0 then none else some (_, _)) = _; rw [if_neg (show ¬ a = 0 from lf_ne h_a 0)]) ?_
    refine e_getR (w := (a + 1)) (show decode (mC 35) 39 = .ok (.getfield 9, 3) by decide +kernel) (show pl 4 9 = some (0, 4, 4, 0) by decide +kernel) (by decide) (lf_ok hG h_a 0 (by decide)) (lf_rf hG h_a 0 (by decide)) ?_
    refine e_L (L' := [some (aR a), some (aI v1), none, some (aI v3), some (aI v4), some (aI v5), none]) (st' := [aI v5, aR (a + 1)]) (show decode (mC 35) 42 = .ok (.iload 5, 2) by decide +kernel) rfl rfl ?_
    refine e_ialdx (n := 8) (show decode (mC 35) 44 = .ok (.iaload, 1) by decide +kernel) (lf_ok hG h_a 1 (by decide)) (lf_ln hG h_a 1 (by decide)) (by decide) (s4 p1) (s5 p1) ex2 ?_
    refine e_P (st' := [aI (-1), aI x2]) (show decode (mC 35) 45 = .ok (.iconst (-1), 1) by decide +kernel) rfl rfl rfl ?_
    refine e_ne2 (t := 91) (show decode (mC 35) 46 = .ok (.if_icmp .ne 45, 3) by decide +kernel) (by decide) (s7 p1) (by decide) (fun p2 => ?_) (fun p2 => ?_)
    · exact (k8 p1 p2)
    · refine e_L (L' := [some (aR a), some (aI v1), none, some (aI v3), some (aI v4), some (aI v5), none]) (st' := [aI v3]) (show decode (mC 35) 49 = .ok (.iload_n 3, 1) by decide +kernel) rfl rfl ?_
      refine e_ldc (show decode (mC 35) 50 = .ok (.ldc 88, 2) by decide +kernel) (show pl 4 88 = some (8, 0, 0, 1103515245) by decide +kernel) ?_
      refine e_P (st' := [aI (v3 * 1103515245)]) (show decode (mC 35) 52 = .ok (.imul, 1) by decide +kernel) rfl rfl rfl ?_
      refine e_P (st' := [aI 12345, aI (v3 * 1103515245)]) (show decode (mC 35) 53 = .ok (.sipush 12345, 3) by decide +kernel) rfl rfl rfl ?_
      refine e_P (st' := [aI ((v3 * 1103515245) + 12345)]) (show decode (mC 35) 56 = .ok (.iadd, 1) by decide +kernel) rfl rfl rfl ?_
      refine e_L (L' := [some (aR a), some (aI v1), none, some (aI ((v3 * 1103515245) + 12345)), some (aI v4), some (aI v5), none]) (st' := []) (show decode (mC 35) 57 = .ok (.istore_n 3, 1) by decide +kernel) rfl rfl ?_
      refine e_L (L' := [some (aR a), some (aI v1), none, some (aI ((v3 * 1103515245) + 12345)), some (aI v4), some (aI v5), none]) (st' := [aI ((v3 * 1103515245) + 12345)]) (show decode (mC 35) 58 = .ok (.iload_n 3, 1) by decide +kernel) rfl rfl ?_
      refine e_P (st' := [aI 8, aI ((v3 * 1103515245) + 12345)]) (show decode (mC 35) 59 = .ok (.bipush 8, 2) by decide +kernel) rfl rfl rfl ?_
      refine e_P (st' := [aI (q_ush ((v3 * 1103515245) + 12345) 8)]) (show decode (mC 35) 61 = .ok (.iushr, 1) by decide +kernel) rfl rfl rfl ?_
      refine e_L (L' := [some (aR a), some (aI v1), none, some (aI ((v3 * 1103515245) + 12345)), some (aI v4), some (aI v5), none]) (st' := [aR a, aI (q_ush ((v3 * 1103515245) + 12345) 8)]) (show decode (mC 35) 62 = .ok (.aload_n 0, 1) by decide +kernel) rfl (by show (if a = 0 then none else some (_, _)) = _; rw [if_neg (show ¬ a = 0 from lf_ne h_a 0)]) ?_
      refine e_getR (w := 9) (show decode (mC 35) 63 = .ok (.getfield 33, 3) by decide +kernel) (show pl 4 33 = some (0, 4, 0, 0) by decide +kernel) (by decide) (lf_ok hG h_a 0 (by decide)) (lf_r0 hG h_a) ?_
      refine e_getIx (show decode (mC 35) 66 = .ok (.getfield 85, 3) by decide +kernel) (show pl 4 85 = some (0, 8, 0, 0) by decide +kernel) (by decide) (sh_ok hG (by decide +kernel)) ex3 ?_
      refine e_irem (show decode (mC 35) 69 = .ok (.irem, 1) by decide +kernel) (s10 p1 p2) ?_
      refine e_L (L' := [some (aR a), some (aI v1), none, some (aI ((v3 * 1103515245) + 12345)), some (aI v4), some (aI v5), some (aI (q_rem (q_ush ((v3 * 1103515245) + 12345) 8) x3))]) (st' := []) (show decode (mC 35) 70 = .ok (.istore 6, 2) by decide +kernel) rfl rfl ?_
      refine e_L (L' := [some (aR a), some (aI v1), none, some (aI ((v3 * 1103515245) + 12345)), some (aI v4), some (aI v5), some (aI (q_rem (q_ush ((v3 * 1103515245) + 12345) 8) x3))]) (st' := [aR a]) (show decode (mC 35) 72 = .ok (.aload_n 0, 1) by decide +kernel) rfl (by show (if a = 0 then none else some (_, _)) = _; rw [if_neg (show ¬ a = 0 from lf_ne h_a 0)]) ?_
      refine e_L (L' := [some (aR a), some (aI v1), none, some (aI ((v3 * 1103515245) + 12345)), some (aI v4), some (aI v5), some (aI (q_rem (q_ush ((v3 * 1103515245) + 12345) 8) x3))]) (st' := [aI v5, aR a]) (show decode (mC 35) 73 = .ok (.iload 5, 2) by decide +kernel) rfl rfl ?_
      refine e_L (L' := [some (aR a), some (aI v1), none, some (aI ((v3 * 1103515245) + 12345)), some (aI v4), some (aI v5), some (aI (q_rem (q_ush ((v3 * 1103515245) + 12345) 8) x3))]) (st' := [aI (q_rem (q_ush ((v3 * 1103515245) + 12345) 8) x3), aI v5, aR a]) (show decode (mC 35) 75 = .ok (.iload 6, 2) by decide +kernel) rfl rfl ?_
      exact e_V (as := [aR a, aI v5, aI (q_rem (q_ush ((v3 * 1103515245) + 12345) 8) x3)]) (rest := []) (show decode (mC 35) 77 = .ok (.invokevirtual 89, 3) by decide +kernel) (by decide +kernel) (show (decide ((3 : Nat) = mA 29) && decide (29 < q_law)) = true by decide +kernel) rfl (show (0 : Nat) ≤ 8 by decide) (show (3 : Nat) ≤ mL 29 by decide +kernel) rfl (lf_ok hG h_a 0 (by decide)) (m11 p1 p2)
/-- SoulOffice$Life.passDrawnDays(II)V, from 80 -/
theorem b35_80 (hG : Shp G) {v1 v3 v4 v5 v6 u0 : Int} {a : Nat} (h_a : Life a) (hQ : ∀ o o' h', q_eqo o o' → Q o h' → Q o' h')
    (s0 : -2147483648 ≤ u0 ∧ u0 < 2147483648)
    (k1 : (¬ u0 = 0) → T (d + 1) 35 91 [some (aR a), some (aI v1), none, some (aI v3), some (aI v4), some (aI v5), none] [] (G, c) Q)
    (m2 : (u0 = 0) → TM d 30 [aR a, aI v5, aI v6] (G, c) (fun r h' => T (d + 1) 35 91 [some (aR a), some (aI v1), none, some (aI v3), some (aI v4), some (aI v5), none] (r.toList ++ []) h' Q)) :
    T (d + 1) 35 80 [some (aR a), some (aI v1), none, some (aI v3), some (aI v4), some (aI v5), some (aI v6)] [aI u0] (G, c) Q := by
  refine e_ne1 (t := 91) (show decode (mC 35) 80 = .ok (.ifCond .ne 11, 3) by decide +kernel) (by decide) s0 (fun p1 => ?_) (fun p1 => ?_)
  · exact T_le hQ (leS (leS (leS (leS (leS (leS (leN leE))))))) (k1 p1)
  · refine e_L (L' := [some (aR a), some (aI v1), none, some (aI v3), some (aI v4), some (aI v5), some (aI v6)]) (st' := [aR a]) (show decode (mC 35) 83 = .ok (.aload_n 0, 1) by decide +kernel) rfl (by show (if a = 0 then none else some (_, _)) = _; rw [if_neg (show ¬ a = 0 from lf_ne h_a 0)]) ?_
    refine e_L (L' := [some (aR a), some (aI v1), none, some (aI v3), some (aI v4), some (aI v5), some (aI v6)]) (st' := [aI v5, aR a]) (show decode (mC 35) 84 = .ok (.iload 5, 2) by decide +kernel) rfl rfl ?_
    refine e_L (L' := [some (aR a), some (aI v1), none, some (aI v3), some (aI v4), some (aI v5), some (aI v6)]) (st' := [aI v6, aI v5, aR a]) (show decode (mC 35) 86 = .ok (.iload 6, 2) by decide +kernel) rfl rfl ?_
    exact e_V (as := [aR a, aI v5, aI v6]) (rest := []) (show decode (mC 35) 88 = .ok (.invokevirtual 92, 3) by decide +kernel) (by decide +kernel) (show (decide ((3 : Nat) = mA 30) && decide (30 < q_law)) = true by decide +kernel) rfl (show (0 : Nat) ≤ 8 by decide) (show (3 : Nat) ≤ mL 30 by decide +kernel) rfl (lf_ok hG h_a 0 (by decide)) (tm_le hQ (leS (leS (leS (leS (leS (leS (leN leE))))))) (m2 p1))
/-- SoulOffice$Life.passDrawnDays(II)V, from 91 -/
theorem b35_91 (hG : Shp G) {v1 v3 v4 v5 : Int} {a : Nat} (h_a : Life a)
    (k0 : T (d + 1) 35 26 [some (aR a), some (aI v1), none, some (aI v3), some (aI v4), some (aI (v5 + 1)), none] [] (G, c) Q) :
    T (d + 1) 35 91 [some (aR a), some (aI v1), none, some (aI v3), some (aI v4), some (aI v5), none] [] (G, c) Q := by
  refine e_L (L' := [some (aR a), some (aI v1), none, some (aI v3), some (aI v4), some (aI (v5 + 1)), none]) (st' := []) (show decode (mC 35) 91 = .ok (.iinc 5 1, 3) by decide +kernel) rfl rfl ?_
  refine e_go (t := 26) (show decode (mC 35) 94 = .ok (.goto (-68), 3) by decide +kernel) (by decide) ?_
  exact k0
/-- SoulOffice$Life.passDrawnDays(II)V, from 101 -/
theorem b35_101 (hG : Shp G) {v1 v3 v4 : Int} {a : Nat} (h_a : Life a)
    (k0 : T (d + 1) 35 17 [some (aR a), some (aI v1), none, some (aI v3), some (aI (v4 + 1)), none, none] [] (G, c) Q) :
    T (d + 1) 35 101 [some (aR a), some (aI v1), none, some (aI v3), some (aI v4), none, none] [] (G, c) Q := by
  refine e_L (L' := [some (aR a), some (aI v1), none, some (aI v3), some (aI (v4 + 1)), none, none]) (st' := []) (show decode (mC 35) 101 = .ok (.iinc 4 1, 3) by decide +kernel) rfl rfl ?_
  refine e_go (t := 17) (show decode (mC 35) 104 = .ok (.goto (-87), 3) by decide +kernel) (by decide) ?_
  exact k0
/-- SoulOffice$Life.giveByClerk()V, from 0 -/
theorem b36_0 (hG : Shp G) {a : Nat} (h_a : Life a)
    (k0 : T (d + 1) 36 2 [some (aR a), some (aI 0), none] [] (G, c) Q) :
    T (d + 1) 36 0 [some (aR a), none, none] [] (G, c) Q := by
  refine e_P (st' := [aI 0]) (show decode (mC 36) 0 = .ok (.iconst 0, 1) by decide +kernel) rfl rfl rfl ?_
  refine e_L (L' := [some (aR a), some (aI 0), none]) (st' := []) (show decode (mC 36) 1 = .ok (.istore_n 1, 1) by decide +kernel) rfl rfl ?_
  exact k0
/-- SoulOffice$Life.giveByClerk()V, from 2 -/
theorem b36_2 (hG : Shp G) {v1 x1 : Int} {a : Nat} (h_a : Life a)
    (ex1 : c 9 1 = x1)
    (s1 : -2147483648 ≤ v1 ∧ v1 < 2147483648)
    (s2 : -2147483648 ≤ x1 ∧ x1 < 2147483648)
    (z3 : (x1 ≤ v1) → Q (.inl none) (G, c))
    (m4 : (v1 < x1) → TM d 37 [aR a, aI v1] (G, c) (fun r h' => T (d + 1) 36 18 [some (aR a), some (aI v1), none] (r.toList ++ []) h' Q)) :
    T (d + 1) 36 2 [some (aR a), some (aI v1), none] [] (G, c) Q := by
  refine e_L (L' := [some (aR a), some (aI v1), none]) (st' := [aI v1]) (show decode (mC 36) 2 = .ok (.iload_n 1, 1) by decide +kernel) rfl rfl ?_
  refine e_L (L' := [some (aR a), some (aI v1), none]) (st' := [aR a, aI v1]) (show decode (mC 36) 3 = .ok (.aload_n 0, 1) by decide +kernel) rfl (by show (if a = 0 then none else some (_, _)) = _; rw [if_neg (show ¬ a = 0 from lf_ne h_a 0)]) ?_
  refine e_getR (w := 9) (show decode (mC 36) 4 = .ok (.getfield 33, 3) by decide +kernel) (show pl 4 33 = some (0, 4, 0, 0) by decide +kernel) (by decide) (lf_ok hG h_a 0 (by decide)) (lf_r0 hG h_a) ?_
  refine e_getIx (show decode (mC 36) 7 = .ok (.getfield 61, 3) by decide +kernel) (show pl 4 61 = some (0, 8, 1, 0) by decide +kernel) (by decide) (sh_ok hG (by decide +kernel)) ex1 ?_
  refine e_ge2 (t := 36) (show decode (mC 36) 10 = .ok (.if_icmp .ge 26, 3) by decide +kernel) (by decide) s1 s2 (fun p1 => ?_) (fun p1 => ?_)
  · exact e_vret (show decode (mC 36) 36 = .ok (.return_, 1) by decide +kernel) rfl (z3 p1)
  · refine e_L (L' := [some (aR a), some (aI v1), none]) (st' := [aR a]) (show decode (mC 36) 13 = .ok (.aload_n 0, 1) by decide +kernel) rfl (by show (if a = 0 then none else some (_, _)) = _; rw [if_neg (show ¬ a = 0 from lf_ne h_a 0)]) ?_
    refine e_L (L' := [some (aR a), some (aI v1), none]) (st' := [aI v1, aR a]) (show decode (mC 36) 14 = .ok (.iload_n 1, 1) by decide +kernel) rfl rfl ?_
    exact e_V (as := [aR a, aI v1]) (rest := []) (show decode (mC 36) 15 = .ok (.invokevirtual 95, 3) by decide +kernel) (by decide +kernel) (show (decide ((2 : Nat) = mA 37) && decide (37 < q_law)) = true by decide +kernel) rfl (show (0 : Nat) ≤ 8 by decide) (show (2 : Nat) ≤ mL 37 by decide +kernel) rfl (lf_ok hG h_a 0 (by decide)) (m4 p1)
/-- SoulOffice$Life.giveByClerk()V, from 18 -/
theorem b36_18 (hG : Shp G) {v1 u0 : Int} {a : Nat} (h_a : Life a) (hQ : ∀ o o' h', q_eqo o o' → Q o h' → Q o' h')
    (s0 : -2147483648 ≤ u0 ∧ u0 < 2147483648)
    (k1 : (u0 = (-1)) → T (d + 1) 36 30 [some (aR a), some (aI v1), none] [] (G, c) Q)
    (m2 : (¬ u0 = (-1)) → TM d 30 [aR a, aI v1, aI u0] (G, c) (fun r h' => T (d + 1) 36 30 [some (aR a), some (aI v1), none] (r.toList ++ []) h' Q)) :
    T (d + 1) 36 18 [some (aR a), some (aI v1), none] [aI u0] (G, c) Q := by
  refine e_L (L' := [some (aR a), some (aI v1), some (aI u0)]) (st' := []) (show decode (mC 36) 18 = .ok (.istore_n 2, 1) by decide +kernel) rfl rfl ?_
  refine e_L (L' := [some (aR a), some (aI v1), some (aI u0)]) (st' := [aI u0]) (show decode (mC 36) 19 = .ok (.iload_n 2, 1) by decide +kernel) rfl rfl ?_
  refine e_P (st' := [aI (-1), aI u0]) (show decode (mC 36) 20 = .ok (.iconst (-1), 1) by decide +kernel) rfl rfl rfl ?_
  refine e_eq2 (t := 30) (show decode (mC 36) 21 = .ok (.if_icmp .eq 9, 3) by decide +kernel) (by decide) s0 (by decide) (fun p1 => ?_) (fun p1 => ?_)
  · exact T_le hQ (leS (leS (leN leE))) (k1 p1)
  · refine e_L (L' := [some (aR a), some (aI v1), some (aI u0)]) (st' := [aR a]) (show decode (mC 36) 24 = .ok (.aload_n 0, 1) by decide +kernel) rfl (by show (if a = 0 then none else some (_, _)) = _; rw [if_neg (show ¬ a = 0 from lf_ne h_a 0)]) ?_
    refine e_L (L' := [some (aR a), some (aI v1), some (aI u0)]) (st' := [aI v1, aR a]) (show decode (mC 36) 25 = .ok (.iload_n 1, 1) by decide +kernel) rfl rfl ?_
    refine e_L (L' := [some (aR a), some (aI v1), some (aI u0)]) (st' := [aI u0, aI v1, aR a]) (show decode (mC 36) 26 = .ok (.iload_n 2, 1) by decide +kernel) rfl rfl ?_
    exact e_V (as := [aR a, aI v1, aI u0]) (rest := []) (show decode (mC 36) 27 = .ok (.invokevirtual 92, 3) by decide +kernel) (by decide +kernel) (show (decide ((3 : Nat) = mA 30) && decide (30 < q_law)) = true by decide +kernel) rfl (show (0 : Nat) ≤ 8 by decide) (show (3 : Nat) ≤ mL 30 by decide +kernel) rfl (lf_ok hG h_a 0 (by decide)) (tm_le hQ (leS (leS (leN leE))) (m2 p1))
/-- SoulOffice$Life.giveByClerk()V, from 30 -/
theorem b36_30 (hG : Shp G) {v1 : Int} {a : Nat} (h_a : Life a)
    (k0 : T (d + 1) 36 2 [some (aR a), some (aI (v1 + 1)), none] [] (G, c) Q) :
    T (d + 1) 36 30 [some (aR a), some (aI v1), none] [] (G, c) Q := by
  refine e_L (L' := [some (aR a), some (aI (v1 + 1)), none]) (st' := []) (show decode (mC 36) 30 = .ok (.iinc 1 1, 3) by decide +kernel) rfl rfl ?_
  refine e_go (t := 2) (show decode (mC 36) 33 = .ok (.goto (-31), 3) by decide +kernel) (by decide) ?_
  exact k0
/-- SoulOffice$Life.clerksChoice(I)I, from 0 -/
theorem b37_0 (hG : Shp G) {v1 x1 : Int} {a : Nat} (h_a : Life a) (hQ : ∀ o o' h', q_eqo o o' → Q o h' → Q o' h')
    (s0 : 0 ≤ v1)
    (s1 : v1 < 8)
    (ex1 : c 16 v1 = x1)
    (s3 : -2147483648 ≤ x1 ∧ x1 < 2147483648)
    (k4 : (x1 = (-1)) → T (d + 1) 37 28 [some (aR a), some (aI v1), none, some (aI 0)] [] (G, c) Q)
    (m5 : (¬ x1 = (-1)) → TM d 29 [aR a, aI v1, aI x1] (G, c) (fun r h' => T (d + 1) 37 21 [some (aR a), some (aI v1), some (aI x1), none] (r.toList ++ []) h' Q)) :
    T (d + 1) 37 0 [some (aR a), some (aI v1), none, none] [] (G, c) Q := by
  refine e_L (L' := [some (aR a), some (aI v1), none, none]) (st' := [aR a]) (show decode (mC 37) 0 = .ok (.aload_n 0, 1) by decide +kernel) rfl (by show (if a = 0 then none else some (_, _)) = _; rw [if_neg (show ¬ a = 0 from lf_ne h_a 0)]) ?_
  refine e_getR (w := 9) (show decode (mC 37) 1 = .ok (.getfield 33, 3) by decide +kernel) (show pl 4 33 = some (0, 4, 0, 0) by decide +kernel) (by decide) (lf_ok hG h_a 0 (by decide)) (lf_r0 hG h_a) ?_
  refine e_getR (w := 16) (show decode (mC 37) 4 = .ok (.getfield 99, 3) by decide +kernel) (show pl 4 99 = some (0, 8, 9, 0) by decide +kernel) (by decide) (sh_ok hG (by decide +kernel)) (sh_rf hG (by decide +kernel)) ?_
  refine e_L (L' := [some (aR a), some (aI v1), none, none]) (st' := [aI v1, aR 16]) (show decode (mC 37) 7 = .ok (.iload_n 1, 1) by decide +kernel) rfl rfl ?_
  refine e_ialdx (n := 8) (show decode (mC 37) 8 = .ok (.iaload, 1) by decide +kernel) (sh_ok hG (by decide +kernel)) (sh_ln hG (by decide +kernel)) (by decide) s0 s1 ex1 ?_
  refine e_L (L' := [some (aR a), some (aI v1), some (aI x1), none]) (st' := []) (show decode (mC 37) 9 = .ok (.istore_n 2, 1) by decide +kernel) rfl rfl ?_
  refine e_L (L' := [some (aR a), some (aI v1), some (aI x1), none]) (st' := [aI x1]) (show decode (mC 37) 10 = .ok (.iload_n 2, 1) by decide +kernel) rfl rfl ?_
  refine e_P (st' := [aI (-1), aI x1]) (show decode (mC 37) 11 = .ok (.iconst (-1), 1) by decide +kernel) rfl rfl rfl ?_
  refine e_eq2 (t := 26) (show decode (mC 37) 12 = .ok (.if_icmp .eq 14, 3) by decide +kernel) (by decide) s3 (by decide) (fun p1 => ?_) (fun p1 => ?_)
  · refine e_P (st' := [aI 0]) (show decode (mC 37) 26 = .ok (.iconst 0, 1) by decide +kernel) rfl rfl rfl ?_
    refine e_L (L' := [some (aR a), some (aI v1), some (aI x1), some (aI 0)]) (st' := []) (show decode (mC 37) 27 = .ok (.istore_n 3, 1) by decide +kernel) rfl rfl ?_
    exact T_le hQ (leS (leS (leN (leS leE)))) (k4 p1)
  · refine e_L (L' := [some (aR a), some (aI v1), some (aI x1), none]) (st' := [aR a]) (show decode (mC 37) 15 = .ok (.aload_n 0, 1) by decide +kernel) rfl (by show (if a = 0 then none else some (_, _)) = _; rw [if_neg (show ¬ a = 0 from lf_ne h_a 0)]) ?_
    refine e_L (L' := [some (aR a), some (aI v1), some (aI x1), none]) (st' := [aI v1, aR a]) (show decode (mC 37) 16 = .ok (.iload_n 1, 1) by decide +kernel) rfl rfl ?_
    refine e_L (L' := [some (aR a), some (aI v1), some (aI x1), none]) (st' := [aI x1, aI v1, aR a]) (show decode (mC 37) 17 = .ok (.iload_n 2, 1) by decide +kernel) rfl rfl ?_
    exact e_V (as := [aR a, aI v1, aI x1]) (rest := []) (show decode (mC 37) 18 = .ok (.invokevirtual 89, 3) by decide +kernel) (by decide +kernel) (show (decide ((3 : Nat) = mA 29) && decide (29 < q_law)) = true by decide +kernel) rfl (show (0 : Nat) ≤ 8 by decide) (show (3 : Nat) ≤ mL 29 by decide +kernel) rfl (lf_ok hG h_a 0 (by decide)) (m5 p1)
end QB4
