section QB5
variable {d : Nat} {G : GG} {c : CC} {Q : OO → HH → Prop}
/-- SoulOffice$Life.clerksChoice(I)I, from 21 -/
theorem b37_21 (hG : Shp G) {v1 v2 u0 : Int} {a : Nat} (h_a : Life a) (hQ : ∀ o o' h', q_eqo o o' → Q o h' → Q o' h')
    (s0 : -2147483648 ≤ u0 ∧ u0 < 2147483648)
    (k1 : (¬ u0 = 0) → T (d + 1) 37 28 [some (aR a), some (aI v1), none, some (aI 0)] [] (G, c) Q)
    (z2 : (u0 = 0) → Q (.inl (some (aI v2))) (G, c)) :
    T (d + 1) 37 21 [some (aR a), some (aI v1), some (aI v2), none] [aI u0] (G, c) Q := by
  refine e_ne1 (t := 26) (show decode (mC 37) 21 = .ok (.ifCond .ne 5, 3) by decide +kernel) (by decide) s0 (fun p1 => ?_) (fun p1 => ?_)
  · refine e_P (st' := [aI 0]) (show decode (mC 37) 26 = .ok (.iconst 0, 1) by decide +kernel) rfl rfl rfl ?_
    refine e_L (L' := [some (aR a), some (aI v1), some (aI v2), some (aI 0)]) (st' := []) (show decode (mC 37) 27 = .ok (.istore_n 3, 1) by decide +kernel) rfl rfl ?_
    exact T_le hQ (leS (leS (leN (leS leE)))) (k1 p1)
  · refine e_L (L' := [some (aR a), some (aI v1), some (aI v2), none]) (st' := [aI v2]) (show decode (mC 37) 24 = .ok (.iload_n 2, 1) by decide +kernel) rfl rfl ?_
    exact e_iret (show decode (mC 37) 25 = .ok (.ireturn, 1) by decide +kernel) rfl (z2 p1)
/-- SoulOffice$Life.clerksChoice(I)I, from 28 -/
theorem b37_28 (hG : Shp G) {v1 v3 x1 : Int} {a : Nat} (h_a : Life a)
    (ex1 : c 9 0 = x1)
    (s1 : -2147483648 ≤ v3 ∧ v3 < 2147483648)
    (s2 : -2147483648 ≤ x1 ∧ x1 < 2147483648)
    (z3 : (x1 ≤ v3) → Q (.inl (some (aI (-1)))) (G, c))
    (m4 : (v3 < x1) → TM d 29 [aR a, aI v1, aI v3] (G, c) (fun r h' => T (d + 1) 37 45 [some (aR a), some (aI v1), none, some (aI v3)] (r.toList ++ []) h' Q)) :
    T (d + 1) 37 28 [some (aR a), some (aI v1), none, some (aI v3)] [] (G, c) Q := by
  refine e_L (L' := [some (aR a), some (aI v1), none, some (aI v3)]) (st' := [aI v3]) (show decode (mC 37) 28 = .ok (.iload_n 3, 1) by decide +kernel) rfl rfl ?_
  refine e_L (L' := [some (aR a), some (aI v1), none, some (aI v3)]) (st' := [aR a, aI v3]) (show decode (mC 37) 29 = .ok (.aload_n 0, 1) by decide +kernel) rfl (by show (if a = 0 then none else some (_, _)) = _; rw [if_neg (show ¬ a = 0 from lf_ne h_a 0)]) ?_
  refine e_getR (w := 9) (show decode (mC 37) 30 = .ok (.getfield 33, 3) by decide +kernel) (show pl 4 33 = some (0, 4, 0, 0) by decide +kernel) (by decide) (lf_ok hG h_a 0 (by decide)) (lf_r0 hG h_a) ?_
  refine e_getIx (show decode (mC 37) 33 = .ok (.getfield 85, 3) by decide +kernel) (show pl 4 85 = some (0, 8, 0, 0) by decide +kernel) (by decide) (sh_ok hG (by decide +kernel)) ex1 ?_
  refine e_ge2 (t := 56) (show decode (mC 37) 36 = .ok (.if_icmp .ge 20, 3) by decide +kernel) (by decide) s1 s2 (fun p1 => ?_) (fun p1 => ?_)
  · refine e_P (st' := [aI (-1)]) (show decode (mC 37) 56 = .ok (.iconst (-1), 1) by decide +kernel) rfl rfl rfl ?_
    exact e_iret (show decode (mC 37) 57 = .ok (.ireturn, 1) by decide +kernel) rfl (z3 p1)
  · refine e_L (L' := [some (aR a), some (aI v1), none, some (aI v3)]) (st' := [aR a]) (show decode (mC 37) 39 = .ok (.aload_n 0, 1) by decide +kernel) rfl (by show (if a = 0 then none else some (_, _)) = _; rw [if_neg (show ¬ a = 0 from lf_ne h_a 0)]) ?_
    refine e_L (L' := [some (aR a), some (aI v1), none, some (aI v3)]) (st' := [aI v1, aR a]) (show decode (mC 37) 40 = .ok (.iload_n 1, 1) by decide +kernel) rfl rfl ?_
    refine e_L (L' := [some (aR a), some (aI v1), none, some (aI v3)]) (st' := [aI v3, aI v1, aR a]) (show decode (mC 37) 41 = .ok (.iload_n 3, 1) by decide +kernel) rfl rfl ?_
    exact e_V (as := [aR a, aI v1, aI v3]) (rest := []) (show decode (mC 37) 42 = .ok (.invokevirtual 89, 3) by decide +kernel) (by decide +kernel) (show (decide ((3 : Nat) = mA 29) && decide (29 < q_law)) = true by decide +kernel) rfl (show (0 : Nat) ≤ 8 by decide) (show (3 : Nat) ≤ mL 29 by decide +kernel) rfl (lf_ok hG h_a 0 (by decide)) (m4 p1)
/-- SoulOffice$Life.clerksChoice(I)I, from 45 -/
theorem b37_45 (hG : Shp G) {v1 v3 u0 : Int} {a : Nat} (h_a : Life a)
    (s0 : -2147483648 ≤ u0 ∧ u0 < 2147483648)
    (k1 : (¬ u0 = 0) → T (d + 1) 37 28 [some (aR a), some (aI v1), none, some (aI (v3 + 1))] [] (G, c) Q)
    (z2 : (u0 = 0) → Q (.inl (some (aI v3))) (G, c)) :
    T (d + 1) 37 45 [some (aR a), some (aI v1), none, some (aI v3)] [aI u0] (G, c) Q := by
  refine e_ne1 (t := 50) (show decode (mC 37) 45 = .ok (.ifCond .ne 5, 3) by decide +kernel) (by decide) s0 (fun p1 => ?_) (fun p1 => ?_)
  · refine e_L (L' := [some (aR a), some (aI v1), none, some (aI (v3 + 1))]) (st' := []) (show decode (mC 37) 50 = .ok (.iinc 3 1, 3) by decide +kernel) rfl rfl ?_
    refine e_go (t := 28) (show decode (mC 37) 53 = .ok (.goto (-25), 3) by decide +kernel) (by decide) ?_
    exact (k1 p1)
  · refine e_L (L' := [some (aR a), some (aI v1), none, some (aI v3)]) (st' := [aI v3]) (show decode (mC 37) 48 = .ok (.iload_n 3, 1) by decide +kernel) rfl rfl ?_
    exact e_iret (show decode (mC 37) 49 = .ok (.ireturn, 1) by decide +kernel) rfl (z2 p1)
/-- SoulOffice$Life.passDay()V, from 0 -/
theorem b38_0 (hG : Shp G) {a : Nat} (h_a : Life a)
    (k0 : T (d + 1) 38 2 [some (aR a), some (aI 0), none] [] (G, c) Q) :
    T (d + 1) 38 0 [some (aR a), none, none] [] (G, c) Q := by
  refine e_P (st' := [aI 0]) (show decode (mC 38) 0 = .ok (.iconst 0, 1) by decide +kernel) rfl rfl rfl ?_
  refine e_L (L' := [some (aR a), some (aI 0), none]) (st' := []) (show decode (mC 38) 1 = .ok (.istore_n 1, 1) by decide +kernel) rfl rfl ?_
  exact k0
/-- SoulOffice$Life.passDay()V, from 2 -/
theorem b38_2 (hG : Shp G) {v1 x1 : Int} {a : Nat} (h_a : Life a) (hQ : ∀ o o' h', q_eqo o o' → Q o h' → Q o' h')
    (ex1 : c 9 1 = x1)
    (s1 : -2147483648 ≤ v1 ∧ v1 < 2147483648)
    (s2 : -2147483648 ≤ x1 ∧ x1 < 2147483648)
    (m3 : (x1 ≤ v1) → TM d 40 [aR a] (G, c) (fun r h' => T (d + 1) 38 79 [some (aR a), none, none] (r.toList ++ []) h' Q))
    (k4 : (v1 < x1) → T (d + 1) 38 17 [some (aR a), some (aI v1), some (aI (v1 + 1))] [] (G, c) Q) :
    T (d + 1) 38 2 [some (aR a), some (aI v1), none] [] (G, c) Q := by
  refine e_L (L' := [some (aR a), some (aI v1), none]) (st' := [aI v1]) (show decode (mC 38) 2 = .ok (.iload_n 1, 1) by decide +kernel) rfl rfl ?_
  refine e_L (L' := [some (aR a), some (aI v1), none]) (st' := [aR a, aI v1]) (show decode (mC 38) 3 = .ok (.aload_n 0, 1) by decide +kernel) rfl (by show (if a = 0 then none else some (_, _)) = _; rw [if_neg (show ¬ a = 0 from lf_ne h_a 0)]) ?_
  refine e_getR (w := 9) (show decode (mC 38) 4 = .ok (.getfield 33, 3) by decide +kernel) (show pl 4 33 = some (0, 4, 0, 0) by decide +kernel) (by decide) (lf_ok hG h_a 0 (by decide)) (lf_r0 hG h_a) ?_
  refine e_getIx (show decode (mC 38) 7 = .ok (.getfield 61, 3) by decide +kernel) (show pl 4 61 = some (0, 8, 1, 0) by decide +kernel) (by decide) (sh_ok hG (by decide +kernel)) ex1 ?_
  refine e_ge2 (t := 75) (show decode (mC 38) 10 = .ok (.if_icmp .ge 65, 3) by decide +kernel) (by decide) s1 s2 (fun p1 => ?_) (fun p1 => ?_)
  · refine e_L (L' := [some (aR a), some (aI v1), none]) (st' := [aR a]) (show decode (mC 38) 75 = .ok (.aload_n 0, 1) by decide +kernel) rfl (by show (if a = 0 then none else some (_, _)) = _; rw [if_neg (show ¬ a = 0 from lf_ne h_a 0)]) ?_
    exact e_V (as := [aR a]) (rest := []) (show decode (mC 38) 76 = .ok (.invokevirtual 105, 3) by decide +kernel) (by decide +kernel) (show (decide ((1 : Nat) = mA 40) && decide (40 < q_law)) = true by decide +kernel) rfl (show (0 : Nat) ≤ 8 by decide) (show (1 : Nat) ≤ mL 40 by decide +kernel) rfl (lf_ok hG h_a 0 (by decide)) (tm_le hQ (leS (leN (leS leE))) (m3 p1))
  · refine e_L (L' := [some (aR a), some (aI v1), none]) (st' := [aI v1]) (show decode (mC 38) 13 = .ok (.iload_n 1, 1) by decide +kernel) rfl rfl ?_
    refine e_P (st' := [aI 1, aI v1]) (show decode (mC 38) 14 = .ok (.iconst 1, 1) by decide +kernel) rfl rfl rfl ?_
    refine e_P (st' := [aI (v1 + 1)]) (show decode (mC 38) 15 = .ok (.iadd, 1) by decide +kernel) rfl rfl rfl ?_
    refine e_L (L' := [some (aR a), some (aI v1), some (aI (v1 + 1))]) (st' := []) (show decode (mC 38) 16 = .ok (.istore_n 2, 1) by decide +kernel) rfl rfl ?_
    exact (k4 p1)
/-- SoulOffice$Life.passDay()V, from 17 -/
theorem b38_17 (hG : Shp G) {v1 v2 x1 : Int} {a : Nat} (h_a : Life a) (hQ : ∀ o o' h', q_eqo o o' → Q o h' → Q o' h')
    (ex1 : c 9 1 = x1)
    (s1 : -2147483648 ≤ v2 ∧ v2 < 2147483648)
    (s2 : -2147483648 ≤ x1 ∧ x1 < 2147483648)
    (k3 : (x1 ≤ v2) → T (d + 1) 38 2 [some (aR a), some (aI (v1 + 1)), none] [] (G, c) Q)
    (m4 : (v2 < x1) → TM d 151 [aI v1, aI v2] (G, c) (fun r h' => T (d + 1) 38 37 [some (aR a), some (aI v1), some (aI v2)] (r.toList ++ [aR (a + 7)]) h' Q)) :
    T (d + 1) 38 17 [some (aR a), some (aI v1), some (aI v2)] [] (G, c) Q := by
  refine e_L (L' := [some (aR a), some (aI v1), some (aI v2)]) (st' := [aI v2]) (show decode (mC 38) 17 = .ok (.iload_n 2, 1) by decide +kernel) rfl rfl ?_
  refine e_L (L' := [some (aR a), some (aI v1), some (aI v2)]) (st' := [aR a, aI v2]) (show decode (mC 38) 18 = .ok (.aload_n 0, 1) by decide +kernel) rfl (by show (if a = 0 then none else some (_, _)) = _; rw [if_neg (show ¬ a = 0 from lf_ne h_a 0)]) ?_
  refine e_getR (w := 9) (show decode (mC 38) 19 = .ok (.getfield 33, 3) by decide +kernel) (show pl 4 33 = some (0, 4, 0, 0) by decide +kernel) (by decide) (lf_ok hG h_a 0 (by decide)) (lf_r0 hG h_a) ?_
  refine e_getIx (show decode (mC 38) 22 = .ok (.getfield 61, 3) by decide +kernel) (show pl 4 61 = some (0, 8, 1, 0) by decide +kernel) (by decide) (sh_ok hG (by decide +kernel)) ex1 ?_
  refine e_ge2 (t := 69) (show decode (mC 38) 25 = .ok (.if_icmp .ge 44, 3) by decide +kernel) (by decide) s1 s2 (fun p1 => ?_) (fun p1 => ?_)
  · refine e_L (L' := [some (aR a), some (aI (v1 + 1)), some (aI v2)]) (st' := []) (show decode (mC 38) 69 = .ok (.iinc 1 1, 3) by decide +kernel) rfl rfl ?_
    refine e_go (t := 2) (show decode (mC 38) 72 = .ok (.goto (-70), 3) by decide +kernel) (by decide) ?_
    exact T_le hQ (leS (leS (leN leE))) (k3 p1)
  · refine e_L (L' := [some (aR a), some (aI v1), some (aI v2)]) (st' := [aR a]) (show decode (mC 38) 28 = .ok (.aload_n 0, 1) by decide +kernel) rfl (by show (if a = 0 then none else some (_, _)) = _; rw [if_neg (show ¬ a = 0 from lf_ne h_a 0)]) ?_
    refine e_getR (w := (a + 7)) (show decode (mC 38) 29 = .ok (.getfield 30, 3) by decide +kernel) (show pl 4 30 = some (0, 4, 10, 0) by decide +kernel) (by decide) (lf_ok hG h_a 0 (by decide)) (lf_rf hG h_a 6 (by decide)) ?_
    refine e_L (L' := [some (aR a), some (aI v1), some (aI v2)]) (st' := [aI v1, aR (a + 7)]) (show decode (mC 38) 32 = .ok (.iload_n 1, 1) by decide +kernel) rfl rfl ?_
    refine e_L (L' := [some (aR a), some (aI v1), some (aI v2)]) (st' := [aI v2, aI v1, aR (a + 7)]) (show decode (mC 38) 33 = .ok (.iload_n 2, 1) by decide +kernel) rfl rfl ?_
    exact e_S (as := [aI v1, aI v2]) (rest := [aR (a + 7)]) (show decode (mC 38) 34 = .ok (.invokestatic 64, 3) by decide +kernel) (by decide +kernel) (show (decide ((2 : Nat) = mA 151) && decide (151 < q_law)) = true by decide +kernel) rfl (show (1 : Nat) ≤ 8 by decide) (show (2 : Nat) ≤ mL 151 by decide +kernel) (m4 p1)
/-- SoulOffice$Life.passDay()V, from 37 -/
theorem b38_37 (hG : Shp G) {v1 v2 u1 : Int} {a : Nat} (h_a : Life a)
    (m0 : TM d 39 [aR a, aI v1, aI v2] (G, c) (fun r h' => T (d + 1) 38 43 [some (aR a), some (aI v1), some (aI v2)] (r.toList ++ [aI u1, aR (a + 7)]) h' Q)) :
    T (d + 1) 38 37 [some (aR a), some (aI v1), some (aI v2)] [aI u1, aR (a + 7)] (G, c) Q := by
  refine e_L (L' := [some (aR a), some (aI v1), some (aI v2)]) (st' := [aR a, aI u1, aR (a + 7)]) (show decode (mC 38) 37 = .ok (.aload_n 0, 1) by decide +kernel) rfl (by show (if a = 0 then none else some (_, _)) = _; rw [if_neg (show ¬ a = 0 from lf_ne h_a 0)]) ?_
  refine e_L (L' := [some (aR a), some (aI v1), some (aI v2)]) (st' := [aI v1, aR a, aI u1, aR (a + 7)]) (show decode (mC 38) 38 = .ok (.iload_n 1, 1) by decide +kernel) rfl rfl ?_
  refine e_L (L' := [some (aR a), some (aI v1), some (aI v2)]) (st' := [aI v2, aI v1, aR a, aI u1, aR (a + 7)]) (show decode (mC 38) 39 = .ok (.iload_n 2, 1) by decide +kernel) rfl rfl ?_
  exact e_V (as := [aR a, aI v1, aI v2]) (rest := [aI u1, aR (a + 7)]) (show decode (mC 38) 40 = .ok (.invokevirtual 102, 3) by decide +kernel) (by decide +kernel) (show (decide ((3 : Nat) = mA 39) && decide (39 < q_law)) = true by decide +kernel) rfl (show (2 : Nat) ≤ 8 by decide) (show (3 : Nat) ≤ mL 39 by decide +kernel) rfl (lf_ok hG h_a 0 (by decide)) m0
/-- SoulOffice$Life.passDay()V, from 43 -/
theorem b38_43 (hG : Shp G) {v1 v2 u1 u2 x1 : Int} {a : Nat} (h_a : Life a)
    (s0 : 0 ≤ u1)
    (s1 : u1 < 64)
    (ex1 : (q_up c (a + 7) u1 u2) a 2 = x1)
    (m3 : TM d 151 [aI v1, aI v2] (G, (q_up c (a + 7) u1 u2)) (fun r h' => T (d + 1) 38 58 [some (aR a), some (aI v1), some (aI v2)] (r.toList ++ [aR (a + 7), aI x1, aR a]) h' Q)) :
    T (d + 1) 38 43 [some (aR a), some (aI v1), some (aI v2)] [aI u2, aI u1, aR (a + 7)] (G, c) Q := by
  refine e_iast (n := 64) (show decode (mC 38) 43 = .ok (.iastore, 1) by decide +kernel) (lf_ok hG h_a 7 (by decide)) (lf_ln hG h_a 7 (by decide)) (by decide) s0 s1 ?_
  refine e_L (L' := [some (aR a), some (aI v1), some (aI v2)]) (st' := [aR a]) (show decode (mC 38) 44 = .ok (.aload_n 0, 1) by decide +kernel) rfl (by show (if a = 0 then none else some (_, _)) = _; rw [if_neg (show ¬ a = 0 from lf_ne h_a 0)]) ?_
  refine e_P (st' := [aR a, aR a]) (show decode (mC 38) 45 = .ok (.dup, 1) by decide +kernel) rfl rfl rfl ?_
  refine e_getIx (show decode (mC 38) 46 = .ok (.getfield 41, 3) by decide +kernel) (show pl 4 41 = some (0, 4, 2, 0) by decide +kernel) (by decide) (lf_ok hG h_a 0 (by decide)) ex1 ?_
  refine e_L (L' := [some (aR a), some (aI v1), some (aI v2)]) (st' := [aR a, aI x1, aR a]) (show decode (mC 38) 49 = .ok (.aload_n 0, 1) by decide +kernel) rfl (by show (if a = 0 then none else some (_, _)) = _; rw [if_neg (show ¬ a = 0 from lf_ne h_a 0)]) ?_
  refine e_getR (w := (a + 7)) (show decode (mC 38) 50 = .ok (.getfield 30, 3) by decide +kernel) (show pl 4 30 = some (0, 4, 10, 0) by decide +kernel) (by decide) (lf_ok hG h_a 0 (by decide)) (lf_rf hG h_a 6 (by decide)) ?_
  refine e_L (L' := [some (aR a), some (aI v1), some (aI v2)]) (st' := [aI v1, aR (a + 7), aI x1, aR a]) (show decode (mC 38) 53 = .ok (.iload_n 1, 1) by decide +kernel) rfl rfl ?_
  refine e_L (L' := [some (aR a), some (aI v1), some (aI v2)]) (st' := [aI v2, aI v1, aR (a + 7), aI x1, aR a]) (show decode (mC 38) 54 = .ok (.iload_n 2, 1) by decide +kernel) rfl rfl ?_
  exact e_S (as := [aI v1, aI v2]) (rest := [aR (a + 7), aI x1, aR a]) (show decode (mC 38) 55 = .ok (.invokestatic 64, 3) by decide +kernel) (by decide +kernel) (show (decide ((2 : Nat) = mA 151) && decide (151 < q_law)) = true by decide +kernel) rfl (show (3 : Nat) ≤ 8 by decide) (show (2 : Nat) ≤ mL 151 by decide +kernel) m3
/-- SoulOffice$Life.passDay()V, from 58 -/
theorem b38_58 (hG : Shp G) {v1 v2 u1 u3 x1 : Int} {a : Nat} (h_a : Life a)
    (s0 : 0 ≤ u3)
    (s1 : u3 < 64)
    (ex1 : c (a + 7) u3 = x1)
    (k3 : T (d + 1) 38 17 [some (aR a), some (aI v1), some (aI (v2 + 1))] [] (G, (q_up c a 2 (u1 + x1))) Q) :
    T (d + 1) 38 58 [some (aR a), some (aI v1), some (aI v2)] [aI u3, aR (a + 7), aI u1, aR a] (G, c) Q := by
  refine e_ialdx (n := 64) (show decode (mC 38) 58 = .ok (.iaload, 1) by decide +kernel) (lf_ok hG h_a 7 (by decide)) (lf_ln hG h_a 7 (by decide)) (by decide) s0 s1 ex1 ?_
  refine e_P (st' := [aI (u1 + x1), aR a]) (show decode (mC 38) 59 = .ok (.iadd, 1) by decide +kernel) rfl rfl rfl ?_
  refine e_putI (show decode (mC 38) 60 = .ok (.putfield 41, 3) by decide +kernel) (show pl 4 41 = some (0, 4, 2, 0) by decide +kernel) (by decide) (lf_ok hG h_a 0 (by decide)) ?_
  refine e_L (L' := [some (aR a), some (aI v1), some (aI (v2 + 1))]) (st' := []) (show decode (mC 38) 63 = .ok (.iinc 2 1, 3) by decide +kernel) rfl rfl ?_
  refine e_go (t := 17) (show decode (mC 38) 66 = .ok (.goto (-49), 3) by decide +kernel) (by decide) ?_
  exact k3
/-- SoulOffice$Life.passDay()V, from 79 -/
theorem b38_79 (hG : Shp G) {a : Nat} (h_a : Life a)
    (k0 : T (d + 1) 38 81 [some (aR a), some (aI 0), none] [] (G, c) Q) :
    T (d + 1) 38 79 [some (aR a), none, none] [] (G, c) Q := by
  refine e_P (st' := [aI 0]) (show decode (mC 38) 79 = .ok (.iconst 0, 1) by decide +kernel) rfl rfl rfl ?_
  refine e_L (L' := [some (aR a), some (aI 0), none]) (st' := []) (show decode (mC 38) 80 = .ok (.istore_n 1, 1) by decide +kernel) rfl rfl ?_
  exact k0
/-- SoulOffice$Life.passDay()V, from 81 -/
theorem b38_81 (hG : Shp G) {v1 x1 x2 x3 x4 : Int} {a : Nat} (h_a : Life a)
    (ex1 : c 9 1 = x1)
    (s1 : -2147483648 ≤ v1 ∧ v1 < 2147483648)
    (s2 : -2147483648 ≤ x1 ∧ x1 < 2147483648)
    (ex2 : (q_uf c (a + 5) (q_cp (c 13) (c (a + 5)) 0 0 6)) a 1 = x2)
    (z4 : (x1 ≤ v1) → Q (.inl none) (G, (q_up (q_uf c (a + 5) (q_cp (c 13) (c (a + 5)) 0 0 6)) a 1 (x2 + 1))))
    (s5 : (v1 < x1) → 0 ≤ v1)
    (s6 : (v1 < x1) → v1 < 8)
    (ex3 : c (a + 2) v1 = x3)
    (s8 : (v1 < x1) → -2147483648 ≤ (x3 - 1) ∧ (x3 - 1) < 2147483648)
    (ex4 : (q_up c (a + 2) v1 (if (x3 - 1) < 0 then 0 else (x3 - 1))) (a + 2) v1 = x4)
    (s10 : (v1 < x1) → -2147483648 ≤ x4 ∧ x4 < 2147483648)
    (k11 : (v1 < x1) → (¬ x4 = 0) → T (d + 1) 38 81 [some (aR a), some (aI (v1 + 1)), none] [] (G, (q_up (q_up c (a + 2) v1 (if (x3 - 1) < 0 then 0 else (x3 - 1))) (a + 4) v1 0)) Q)
    (k12 : (v1 < x1) → (x4 = 0) → T (d + 1) 38 81 [some (aR a), some (aI (v1 + 1)), none] [] (G, (q_up (q_up (q_up c (a + 2) v1 (if (x3 - 1) < 0 then 0 else (x3 - 1))) (a + 1) v1 (-1)) (a + 4) v1 0)) Q) :
    T (d + 1) 38 81 [some (aR a), some (aI v1), none] [] (G, c) Q := by
  refine e_L (L' := [some (aR a), some (aI v1), none]) (st' := [aI v1]) (show decode (mC 38) 81 = .ok (.iload_n 1, 1) by decide +kernel) rfl rfl ?_
  refine e_L (L' := [some (aR a), some (aI v1), none]) (st' := [aR a, aI v1]) (show decode (mC 38) 82 = .ok (.aload_n 0, 1) by decide +kernel) rfl (by show (if a = 0 then none else some (_, _)) = _; rw [if_neg (show ¬ a = 0 from lf_ne h_a 0)]) ?_
  refine e_getR (w := 9) (show decode (mC 38) 83 = .ok (.getfield 33, 3) by decide +kernel) (show pl 4 33 = some (0, 4, 0, 0) by decide +kernel) (by decide) (lf_ok hG h_a 0 (by decide)) (lf_r0 hG h_a) ?_
  refine e_getIx (show decode (mC 38) 86 = .ok (.getfield 61, 3) by decide +kernel) (show pl 4 61 = some (0, 8, 1, 0) by decide +kernel) (by decide) (sh_ok hG (by decide +kernel)) ex1 ?_
  refine e_ge2 (t := 139) (show decode (mC 38) 89 = .ok (.if_icmp .ge 50, 3) by decide +kernel) (by decide) s1 s2 (fun p1 => ?_) (fun p1 => ?_)
  · refine e_L (L' := [some (aR a), some (aI v1), none]) (st' := [aR a]) (show decode (mC 38) 139 = .ok (.aload_n 0, 1) by decide +kernel) rfl (by show (if a = 0 then none else some (_, _)) = _; rw [if_neg (show ¬ a = 0 from lf_ne h_a 0)]) ?_
    refine e_getR (w := 9) (show decode (mC 38) 140 = .ok (.getfield 33, 3) by decide +kernel) (show pl 4 33 = some (0, 4, 0, 0) by decide +kernel) (by decide) (lf_ok hG h_a 0 (by decide)) (lf_r0 hG h_a) ?_
    refine e_getR (w := 13) (show decode (mC 38) 143 = .ok (.getfield 47, 3) by decide +kernel) (show pl 4 47 = some (0, 8, 6, 0) by decide +kernel) (by decide) (sh_ok hG (by decide +kernel)) (sh_rf hG (by decide +kernel)) ?_
    refine e_P (st' := [aI 0, aR 13]) (show decode (mC 38) 146 = .ok (.iconst 0, 1) by decide +kernel) rfl rfl rfl ?_
    refine e_L (L' := [some (aR a), some (aI v1), none]) (st' := [aR a, aI 0, aR 13]) (show decode (mC 38) 147 = .ok (.aload_n 0, 1) by decide +kernel) rfl (by show (if a = 0 then none else some (_, _)) = _; rw [if_neg (show ¬ a = 0 from lf_ne h_a 0)]) ?_
    refine e_getR (w := (a + 5)) (show decode (mC 38) 148 = .ok (.getfield 24, 3) by decide +kernel) (show pl 4 24 = some (0, 4, 8, 0) by decide +kernel) (by decide) (lf_ok hG h_a 0 (by decide)) (lf_rf hG h_a 4 (by decide)) ?_
    refine e_P (st' := [aI 0, aR (a + 5), aI 0, aR 13]) (show decode (mC 38) 151 = .ok (.iconst 0, 1) by decide +kernel) rfl rfl rfl ?_
    refine e_P (st' := [aI 6, aI 0, aR (a + 5), aI 0, aR 13]) (show decode (mC 38) 152 = .ok (.bipush 6, 2) by decide +kernel) rfl rfl rfl ?_
    refine e_acp (n := 6) (n2 := 6) (show decode (mC 38) 154 = .ok (.invokestatic 52, 3) by decide +kernel) (show pl 4 52 = some (10, 0, 0, 0) by decide +kernel) (Or.inl ⟨(sh_ok hG (by decide +kernel)), (lf_ok hG h_a 5 (by decide))⟩) (sh_ln hG (by decide +kernel)) (lf_ln hG h_a 5 (by decide)) (by decide) (show (0 : Nat) ≤ 20 by decide) ?_
    refine e_L (L' := [some (aR a), some (aI v1), none]) (st' := [aR a]) (show decode (mC 38) 157 = .ok (.aload_n 0, 1) by decide +kernel) rfl (by show (if a = 0 then none else some (_, _)) = _; rw [if_neg (show ¬ a = 0 from lf_ne h_a 0)]) ?_
    refine e_P (st' := [aR a, aR a]) (show decode (mC 38) 158 = .ok (.dup, 1) by decide +kernel) rfl rfl rfl ?_
    refine e_getIx (show decode (mC 38) 159 = .ok (.getfield 37, 3) by decide +kernel) (show pl 4 37 = some (0, 4, 1, 0) by decide +kernel) (by decide) (lf_ok hG h_a 0 (by decide)) ex2 ?_
    refine e_P (st' := [aI 1, aI x2, aR a]) (show decode (mC 38) 162 = .ok (.iconst 1, 1) by decide +kernel) rfl rfl rfl ?_
    refine e_P (st' := [aI (x2 + 1), aR a]) (show decode (mC 38) 163 = .ok (.iadd, 1) by decide +kernel) rfl rfl rfl ?_
    refine e_putI (show decode (mC 38) 164 = .ok (.putfield 37, 3) by decide +kernel) (show pl 4 37 = some (0, 4, 1, 0) by decide +kernel) (by decide) (lf_ok hG h_a 0 (by decide)) ?_
    exact e_vret (show decode (mC 38) 167 = .ok (.return_, 1) by decide +kernel) rfl (z4 p1)
  · refine e_L (L' := [some (aR a), some (aI v1), none]) (st' := [aR a]) (show decode (mC 38) 92 = .ok (.aload_n 0, 1) by decide +kernel) rfl (by show (if a = 0 then none else some (_, _)) = _; rw [if_neg (show ¬ a = 0 from lf_ne h_a 0)]) ?_
    refine e_getR (w := (a + 2)) (show decode (mC 38) 93 = .ok (.getfield 15, 3) by decide +kernel) (show pl 4 15 = some (0, 4, 5, 0) by decide +kernel) (by decide) (lf_ok hG h_a 0 (by decide)) (lf_rf hG h_a 1 (by decide)) ?_
    refine e_L (L' := [some (aR a), some (aI v1), none]) (st' := [aI v1, aR (a + 2)]) (show decode (mC 38) 96 = .ok (.iload_n 1, 1) by decide +kernel) rfl rfl ?_
    refine e_L (L' := [some (aR a), some (aI v1), none]) (st' := [aR a, aI v1, aR (a + 2)]) (show decode (mC 38) 97 = .ok (.aload_n 0, 1) by decide +kernel) rfl (by show (if a = 0 then none else some (_, _)) = _; rw [if_neg (show ¬ a = 0 from lf_ne h_a 0)]) ?_
    refine e_getR (w := (a + 2)) (show decode (mC 38) 98 = .ok (.getfield 15, 3) by decide +kernel) (show pl 4 15 = some (0, 4, 5, 0) by decide +kernel) (by decide) (lf_ok hG h_a 0 (by decide)) (lf_rf hG h_a 1 (by decide)) ?_
    refine e_L (L' := [some (aR a), some (aI v1), none]) (st' := [aI v1, aR (a + 2), aI v1, aR (a + 2)]) (show decode (mC 38) 101 = .ok (.iload_n 1, 1) by decide +kernel) rfl rfl ?_
    refine e_ialdx (n := 8) (show decode (mC 38) 102 = .ok (.iaload, 1) by decide +kernel) (lf_ok hG h_a 2 (by decide)) (lf_ln hG h_a 2 (by decide)) (by decide) (s5 p1) (s6 p1) ex3 ?_
    refine e_P (st' := [aI 1, aI x3, aI v1, aR (a + 2)]) (show decode (mC 38) 103 = .ok (.iconst 1, 1) by decide +kernel) rfl rfl rfl ?_
    refine e_P (st' := [aI (x3 - 1), aI v1, aR (a + 2)]) (show decode (mC 38) 104 = .ok (.isub, 1) by decide +kernel) rfl rfl rfl ?_
    refine e_P (st' := [aI 0, aI (x3 - 1), aI v1, aR (a + 2)]) (show decode (mC 38) 105 = .ok (.iconst 0, 1) by decide +kernel) rfl rfl rfl ?_
    refine e_max (show decode (mC 38) 106 = .ok (.invokestatic 108, 3) by decide +kernel) (show pl 4 108 = some (15, 0, 0, 0) by decide +kernel) (s8 p1) (by decide) (show (2 : Nat) ≤ 20 by decide) ?_
    refine e_iast (n := 8) (show decode (mC 38) 109 = .ok (.iastore, 1) by decide +kernel) (lf_ok hG h_a 2 (by decide)) (lf_ln hG h_a 2 (by decide)) (by decide) (s5 p1) (s6 p1) ?_
    refine e_L (L' := [some (aR a), some (aI v1), none]) (st' := [aR a]) (show decode (mC 38) 110 = .ok (.aload_n 0, 1) by decide +kernel) rfl (by show (if a = 0 then none else some (_, _)) = _; rw [if_neg (show ¬ a = 0 from lf_ne h_a 0)]) ?_
    refine e_getR (w := (a + 2)) (show decode (mC 38) 111 = .ok (.getfield 15, 3) by decide +kernel) (show pl 4 15 = some (0, 4, 5, 0) by decide +kernel) (by decide) (lf_ok hG h_a 0 (by decide)) (lf_rf hG h_a 1 (by decide)) ?_
    refine e_L (L' := [some (aR a), some (aI v1), none]) (st' := [aI v1, aR (a + 2)]) (show decode (mC 38) 114 = .ok (.iload_n 1, 1) by decide +kernel) rfl rfl ?_
    refine e_ialdx (n := 8) (show decode (mC 38) 115 = .ok (.iaload, 1) by decide +kernel) (lf_ok hG h_a 2 (by decide)) (lf_ln hG h_a 2 (by decide)) (by decide) (s5 p1) (s6 p1) ex4 ?_
    refine e_ne1 (t := 126) (show decode (mC 38) 116 = .ok (.ifCond .ne 10, 3) by decide +kernel) (by decide) (s10 p1) (fun p2 => ?_) (fun p2 => ?_)
    · refine e_L (L' := [some (aR a), some (aI v1), none]) (st' := [aR a]) (show decode (mC 38) 126 = .ok (.aload_n 0, 1) by decide +kernel) rfl (by show (if a = 0 then none else some (_, _)) = _; rw [if_neg (show ¬ a = 0 from lf_ne h_a 0)]) ?_
      refine e_getR (w := (a + 4)) (show decode (mC 38) 127 = .ok (.getfield 21, 3) by decide +kernel) (show pl 4 21 = some (0, 4, 7, 0) by decide +kernel) (by decide) (lf_ok hG h_a 0 (by decide)) (lf_rf hG h_a 3 (by decide)) ?_
      refine e_L (L' := [some (aR a), some (aI v1), none]) (st' := [aI v1, aR (a + 4)]) (show decode (mC 38) 130 = .ok (.iload_n 1, 1) by decide +kernel) rfl rfl ?_
      refine e_P (st' := [aI 0, aI v1, aR (a + 4)]) (show decode (mC 38) 131 = .ok (.iconst 0, 1) by decide +kernel) rfl rfl rfl ?_
      refine e_iast (n := 8) (show decode (mC 38) 132 = .ok (.iastore, 1) by decide +kernel) (lf_ok hG h_a 4 (by decide)) (lf_ln hG h_a 4 (by decide)) (by decide) (s5 p1) (s6 p1) ?_
      refine e_L (L' := [some (aR a), some (aI (v1 + 1)), none]) (st' := []) (show decode (mC 38) 133 = .ok (.iinc 1 1, 3) by decide +kernel) rfl rfl ?_
      refine e_go (t := 81) (show decode (mC 38) 136 = .ok (.goto (-55), 3) by decide +kernel) (by decide) ?_
      exact (k11 p1 p2)
    · refine e_L (L' := [some (aR a), some (aI v1), none]) (st' := [aR a]) (show decode (mC 38) 119 = .ok (.aload_n 0, 1) by decide +kernel) rfl (by show (if a = 0 then none else some (_, _)) = _; rw [if_neg (show ¬ a = 0 from lf_ne h_a 0)]) ?_
      refine e_getR (w := (a + 1)) (show decode (mC 38) 120 = .ok (.getfield 9, 3) by decide +kernel) (show pl 4 9 = some (0, 4, 4, 0) by decide +kernel) (by decide) (lf_ok hG h_a 0 (by decide)) (lf_rf hG h_a 0 (by decide)) ?_
      refine e_L (L' := [some (aR a), some (aI v1), none]) (st' := [aI v1, aR (a + 1)]) (show decode (mC 38) 123 = .ok (.iload_n 1, 1) by decide +kernel) rfl rfl ?_
      refine e_P (st' := [aI (-1), aI v1, aR (a + 1)]) (show decode (mC 38) 124 = .ok (.iconst (-1), 1) by decide +kernel) rfl rfl rfl ?_
      refine e_iast (n := 8) (show decode (mC 38) 125 = .ok (.iastore, 1) by decide +kernel) (lf_ok hG h_a 1 (by decide)) (lf_ln hG h_a 1 (by decide)) (by decide) (s5 p1) (s6 p1) ?_
      refine e_L (L' := [some (aR a), some (aI v1), none]) (st' := [aR a]) (show decode (mC 38) 126 = .ok (.aload_n 0, 1) by decide +kernel) rfl (by show (if a = 0 then none else some (_, _)) = _; rw [if_neg (show ¬ a = 0 from lf_ne h_a 0)]) ?_
      refine e_getR (w := (a + 4)) (show decode (mC 38) 127 = .ok (.getfield 21, 3) by decide +kernel) (show pl 4 21 = some (0, 4, 7, 0) by decide +kernel) (by decide) (lf_ok hG h_a 0 (by decide)) (lf_rf hG h_a 3 (by decide)) ?_
      refine e_L (L' := [some (aR a), some (aI v1), none]) (st' := [aI v1, aR (a + 4)]) (show decode (mC 38) 130 = .ok (.iload_n 1, 1) by decide +kernel) rfl rfl ?_
      refine e_P (st' := [aI 0, aI v1, aR (a + 4)]) (show decode (mC 38) 131 = .ok (.iconst 0, 1) by decide +kernel) rfl rfl rfl ?_
      refine e_iast (n := 8) (show decode (mC 38) 132 = .ok (.iastore, 1) by decide +kernel) (lf_ok hG h_a 4 (by decide)) (lf_ln hG h_a 4 (by decide)) (by decide) (s5 p1) (s6 p1) ?_
      refine e_L (L' := [some (aR a), some (aI (v1 + 1)), none]) (st' := []) (show decode (mC 38) 133 = .ok (.iinc 1 1, 3) by decide +kernel) rfl rfl ?_
      refine e_go (t := 81) (show decode (mC 38) 136 = .ok (.goto (-55), 3) by decide +kernel) (by decide) ?_
      exact (k12 p1 p2)
/-- SoulOffice$Life.settlePair(II)I, from 0 -/
theorem b39_0 (hG : Shp G) {v1 v2 x1 x2 x3 x4 : Int} {a : Nat} (h_a : Life a)
    (s0 : 0 ≤ v1)
    (s1 : v1 < 8)
    (ex1 : c (a + 1) v1 = x1)
    (s3 : -2147483648 ≤ x1 ∧ x1 < 2147483648)
    (z4 : (x1 = (-1)) → Q (.inl (some (aI 0))) (G, c))
    (s5 : (¬ x1 = (-1)) → 0 ≤ v2)
    (s6 : (¬ x1 = (-1)) → v2 < 8)
    (ex2 : c (a + 1) v2 = x2)
    (s8 : (¬ x1 = (-1)) → -2147483648 ≤ x2 ∧ x2 < 2147483648)
    (ex3 : c (a + 1) v1 = x3)
    (ex4 : c (a + 1) v2 = x4)
    (m11 : (¬ x1 = (-1)) → (¬ x2 = (-1)) → TM d 152 [aI x3, aI x4] (G, c) (fun r h' => T (d + 1) 39 44 [some (aR a), some (aI v1), some (aI v2), none, none, none, none, none] (r.toList ++ [aR 14]) h' Q))
    (z12 : (¬ x1 = (-1)) → (x2 = (-1)) → Q (.inl (some (aI 0))) (G, c)) :
    T (d + 1) 39 0 [some (aR a), some (aI v1), some (aI v2), none, none, none, none, none] [] (G, c) Q := by
  refine e_L (L' := [some (aR a), some (aI v1), some (aI v2), none, none, none, none, none]) (st' := [aR a]) (show decode (mC 39) 0 = .ok (.aload_n 0, 1) by decide +kernel) rfl (by show (if a = 0 then none else some (_, _)) = _; rw [if_neg (show ¬ a = 0 from lf_ne h_a 0)]) ?_
  refine e_getR (w := (a + 1)) (show decode (mC 39) 1 = .ok (.getfield 9, 3) by decide +kernel) (show pl 4 9 = some (0, 4, 4, 0) by decide +kernel) (by decide) (lf_ok hG h_a 0 (by decide)) (lf_rf hG h_a 0 (by decide)) ?_
  refine e_L (L' := [some (aR a), some (aI v1), some (aI v2), none, none, none, none, none]) (st' := [aI v1, aR (a + 1)]) (show decode (mC 39) 4 = .ok (.iload_n 1, 1) by decide +kernel) rfl rfl ?_
  refine e_ialdx (n := 8) (show decode (mC 39) 5 = .ok (.iaload, 1) by decide +kernel) (lf_ok hG h_a 1 (by decide)) (lf_ln hG h_a 1 (by decide)) (by decide) s0 s1 ex1 ?_
  refine e_P (st' := [aI (-1), aI x1]) (show decode (mC 39) 6 = .ok (.iconst (-1), 1) by decide +kernel) rfl rfl rfl ?_
  refine e_eq2 (t := 20) (show decode (mC 39) 7 = .ok (.if_icmp .eq 13, 3) by decide +kernel) (by decide) s3 (by decide) (fun p1 => ?_) (fun p1 => ?_)
  · refine e_P (st' := [aI 0]) (show decode (mC 39) 20 = .ok (.iconst 0, 1) by decide +kernel) rfl rfl rfl ?_
    exact e_iret (show decode (mC 39) 21 = .ok (.ireturn, 1) by decide +kernel) rfl (z4 p1)
  · refine e_L (L' := [some (aR a), some (aI v1), some (aI v2), none, none, none, none, none]) (st' := [aR a]) (show decode (mC 39) 10 = .ok (.aload_n 0, 1) by decide +kernel) rfl (by show (if a = 0 then none else some (_, _)) = _; rw [if_neg (show ¬ a = 0 from lf_ne h_a 0)]) ?_
    refine e_getR (w := (a + 1)) (show decode (mC 39) 11 = .ok (.getfield 9, 3) by decide +kernel) (show pl 4 9 = some (0, 4, 4, 0) by decide +kernel) (by decide) (lf_ok hG h_a 0 (by decide)) (lf_rf hG h_a 0 (by decide)) ?_
    refine e_L (L' := [some (aR a), some (aI v1), some (aI v2), none, none, none, none, none]) (st' := [aI v2, aR (a + 1)]) (show decode (mC 39) 14 = .ok (.iload_n 2, 1) by decide +kernel) rfl rfl ?_
    refine e_ialdx (n := 8) (show decode (mC 39) 15 = .ok (.iaload, 1) by decide +kernel) (lf_ok hG h_a 1 (by decide)) (lf_ln hG h_a 1 (by decide)) (by decide) (s5 p1) (s6 p1) ex2 ?_
    refine e_P (st' := [aI (-1), aI x2]) (show decode (mC 39) 16 = .ok (.iconst (-1), 1) by decide +kernel) rfl rfl rfl ?_
    refine e_ne2 (t := 22) (show decode (mC 39) 17 = .ok (.if_icmp .ne 5, 3) by decide +kernel) (by decide) (s8 p1) (by decide) (fun p2 => ?_) (fun p2 => ?_)
    · refine e_L (L' := [some (aR a), some (aI v1), some (aI v2), none, none, none, none, none]) (st' := [aR a]) (show decode (mC 39) 22 = .ok (.aload_n 0, 1) by decide +kernel) rfl (by show (if a = 0 then none else some (_, _)) = _; rw [if_neg (show ¬ a = 0 from lf_ne h_a 0)]) ?_
      refine e_getR (w := 9) (show decode (mC 39) 23 = .ok (.getfield 33, 3) by decide +kernel) (show pl 4 33 = some (0, 4, 0, 0) by decide +kernel) (by decide) (lf_ok hG h_a 0 (by decide)) (lf_r0 hG h_a) ?_
      refine e_getR (w := 14) (show decode (mC 39) 26 = .ok (.getfield 113, 3) by decide +kernel) (show pl 4 113 = some (0, 8, 7, 0) by decide +kernel) (by decide) (sh_ok hG (by decide +kernel)) (sh_rf hG (by decide +kernel)) ?_
      refine e_L (L' := [some (aR a), some (aI v1), some (aI v2), none, none, none, none, none]) (st' := [aR a, aR 14]) (show decode (mC 39) 29 = .ok (.aload_n 0, 1) by decide +kernel) rfl (by show (if a = 0 then none else some (_, _)) = _; rw [if_neg (show ¬ a = 0 from lf_ne h_a 0)]) ?_
      refine e_getR (w := (a + 1)) (show decode (mC 39) 30 = .ok (.getfield 9, 3) by decide +kernel) (show pl 4 9 = some (0, 4, 4, 0) by decide +kernel) (by decide) (lf_ok hG h_a 0 (by decide)) (lf_rf hG h_a 0 (by decide)) ?_
      refine e_L (L' := [some (aR a), some (aI v1), some (aI v2), none, none, none, none, none]) (st' := [aI v1, aR (a + 1), aR 14]) (show decode (mC 39) 33 = .ok (.iload_n 1, 1) by decide +kernel) rfl rfl ?_
      refine e_ialdx (n := 8) (show decode (mC 39) 34 = .ok (.iaload, 1) by decide +kernel) (lf_ok hG h_a 1 (by decide)) (lf_ln hG h_a 1 (by decide)) (by decide) s0 s1 ex3 ?_
      refine e_L (L' := [some (aR a), some (aI v1), some (aI v2), none, none, none, none, none]) (st' := [aR a, aI x3, aR 14]) (show decode (mC 39) 35 = .ok (.aload_n 0, 1) by decide +kernel) rfl (by show (if a = 0 then none else some (_, _)) = _; rw [if_neg (show ¬ a = 0 from lf_ne h_a 0)]) ?_
      refine e_getR (w := (a + 1)) (show decode (mC 39) 36 = .ok (.getfield 9, 3) by decide +kernel) (show pl 4 9 = some (0, 4, 4, 0) by decide +kernel) (by decide) (lf_ok hG h_a 0 (by decide)) (lf_rf hG h_a 0 (by decide)) ?_
      refine e_L (L' := [some (aR a), some (aI v1), some (aI v2), none, none, none, none, none]) (st' := [aI v2, aR (a + 1), aI x3, aR 14]) (show decode (mC 39) 39 = .ok (.iload_n 2, 1) by decide +kernel) rfl rfl ?_
      refine e_ialdx (n := 8) (show decode (mC 39) 40 = .ok (.iaload, 1) by decide +kernel) (lf_ok hG h_a 1 (by decide)) (lf_ln hG h_a 1 (by decide)) (by decide) (s5 p1) (s6 p1) ex4 ?_
      exact e_S (as := [aI x3, aI x4]) (rest := [aR 14]) (show decode (mC 39) 41 = .ok (.invokestatic 116, 3) by decide +kernel) (by decide +kernel) (show (decide ((2 : Nat) = mA 152) && decide (152 < q_law)) = true by decide +kernel) rfl (show (1 : Nat) ≤ 8 by decide) (show (2 : Nat) ≤ mL 152 by decide +kernel) (m11 p1 p2)
    · refine e_P (st' := [aI 0]) (show decode (mC 39) 20 = .ok (.iconst 0, 1) by decide +kernel) rfl rfl rfl ?_
      exact e_iret (show decode (mC 39) 21 = .ok (.ireturn, 1) by decide +kernel) rfl (z12 p1 p2)
/-- SoulOffice$Life.settlePair(II)I, from 44 -/
theorem b39_44 (hG : Shp G) {v1 v2 u1 x1 : Int} {a : Nat} (h_a : Life a)
    (s0 : 0 ≤ u1)
    (s1 : u1 < 36)
    (ex1 : c 14 u1 = x1)
    (m3 : TM d 151 [aI v1, aI v2] (G, c) (fun r h' => T (d + 1) 39 51 [some (aR a), some (aI v1), some (aI v2), some (aI x1), none, none, none, none] (r.toList ++ []) h' Q)) :
    T (d + 1) 39 44 [some (aR a), some (aI v1), some (aI v2), none, none, none, none, none] [aI u1, aR 14] (G, c) Q := by
  refine e_ialdx (n := 36) (show decode (mC 39) 44 = .ok (.iaload, 1) by decide +kernel) (sh_ok hG (by decide +kernel)) (sh_ln hG (by decide +kernel)) (by decide) s0 s1 ex1 ?_
  refine e_L (L' := [some (aR a), some (aI v1), some (aI v2), some (aI x1), none, none, none, none]) (st' := []) (show decode (mC 39) 45 = .ok (.istore_n 3, 1) by decide +kernel) rfl rfl ?_
  refine e_L (L' := [some (aR a), some (aI v1), some (aI v2), some (aI x1), none, none, none, none]) (st' := [aI v1]) (show decode (mC 39) 46 = .ok (.iload_n 1, 1) by decide +kernel) rfl rfl ?_
  refine e_L (L' := [some (aR a), some (aI v1), some (aI v2), some (aI x1), none, none, none, none]) (st' := [aI v2, aI v1]) (show decode (mC 39) 47 = .ok (.iload_n 2, 1) by decide +kernel) rfl rfl ?_
  exact e_S (as := [aI v1, aI v2]) (rest := []) (show decode (mC 39) 48 = .ok (.invokestatic 64, 3) by decide +kernel) (by decide +kernel) (show (decide ((2 : Nat) = mA 151) && decide (151 < q_law)) = true by decide +kernel) rfl (show (0 : Nat) ≤ 8 by decide) (show (2 : Nat) ≤ mL 151 by decide +kernel) m3
/-- SoulOffice$Life.settlePair(II)I, from 51 -/
theorem b39_51 (hG : Shp G) {v1 v2 v3 u0 : Int} {a : Nat} (h_a : Life a) (hQ : ∀ o o' h', q_eqo o o' → Q o h' → Q o' h')
    (m0 : TM d 151 [aI v2, aI v1] (G, c) (fun r h' => T (d + 1) 39 58 [some (aR a), none, none, some (aI v3), some (aI u0), none, none, none] (r.toList ++ []) h' Q)) :
    T (d + 1) 39 51 [some (aR a), some (aI v1), some (aI v2), some (aI v3), none, none, none, none] [aI u0] (G, c) Q := by
  refine e_L (L' := [some (aR a), some (aI v1), some (aI v2), some (aI v3), some (aI u0), none, none, none]) (st' := []) (show decode (mC 39) 51 = .ok (.istore 4, 2) by decide +kernel) rfl rfl ?_
  refine e_L (L' := [some (aR a), some (aI v1), some (aI v2), some (aI v3), some (aI u0), none, none, none]) (st' := [aI v2]) (show decode (mC 39) 53 = .ok (.iload_n 2, 1) by decide +kernel) rfl rfl ?_
  refine e_L (L' := [some (aR a), some (aI v1), some (aI v2), some (aI v3), some (aI u0), none, none, none]) (st' := [aI v1, aI v2]) (show decode (mC 39) 54 = .ok (.iload_n 1, 1) by decide +kernel) rfl rfl ?_
  exact e_S (as := [aI v2, aI v1]) (rest := []) (show decode (mC 39) 55 = .ok (.invokestatic 64, 3) by decide +kernel) (by decide +kernel) (show (decide ((2 : Nat) = mA 151) && decide (151 < q_law)) = true by decide +kernel) rfl (show (0 : Nat) ≤ 8 by decide) (show (2 : Nat) ≤ mL 151 by decide +kernel) (tm_le hQ (leS (leN (leN (leS (leS (leS (leS (leS leE)))))))) m0)
/-- SoulOffice$Life.settlePair(II)I, from 58 -/
theorem b39_58 (hG : Shp G) {v3 v4 u0 x1 x2 x3 x4 : Int} {a : Nat} (h_a : Life a)
    (s0 : 0 ≤ v4)
    (s1 : v4 < 64)
    (ex1 : c (a + 6) v4 = x1)
    (s3 : -2147483648 ≤ v3 ∧ v3 < 2147483648)
    (s4 : -2147483648 ≤ x1 ∧ x1 < 2147483648)
    (s5 : 0 ≤ u0)
    (s6 : u0 < 64)
    (ex2 : c (a + 6) u0 = x2)
    (s8 : -2147483648 ≤ (v3 - (if x1 < v3 then x1 else v3)) ∧ (v3 - (if x1 < v3 then x1 else v3)) < 2147483648)
    (s9 : -2147483648 ≤ x2 ∧ x2 < 2147483648)
    (ex3 : c (a + 6) v4 = x3)
    (ex4 : (q_up c (a + 6) v4 (x3 - (if x1 < v3 then x1 else v3))) (a + 6) u0 = x4)
    (z12 : Q (.inl (some (aI ((if x1 < v3 then x1 else v3) + (if x2 < (v3 - (if x1 < v3 then x1 else v3)) then x2 else (v3 - (if x1 < v3 then x1 else v3))))))) (G, (q_up (q_up c (a + 6) v4 (x3 - (if x1 < v3 then x1 else v3))) (a + 6) u0 (x4 - (if x2 < (v3 - (if x1 < v3 then x1 else v3)) then x2 else (v3 - (if x1 < v3 then x1 else v3))))))) :
    T (d + 1) 39 58 [some (aR a), none, none, some (aI v3), some (aI v4), none, none, none] [aI u0] (G, c) Q := by
  refine e_L (L' := [some (aR a), none, none, some (aI v3), some (aI v4), some (aI u0), none, none]) (st' := []) (show decode (mC 39) 58 = .ok (.istore 5, 2) by decide +kernel) rfl rfl ?_
  refine e_L (L' := [some (aR a), none, none, some (aI v3), some (aI v4), some (aI u0), none, none]) (st' := [aI v3]) (show decode (mC 39) 60 = .ok (.iload_n 3, 1) by decide +kernel) rfl rfl ?_
  refine e_L (L' := [some (aR a), none, none, some (aI v3), some (aI v4), some (aI u0), none, none]) (st' := [aR a, aI v3]) (show decode (mC 39) 61 = .ok (.aload_n 0, 1) by decide +kernel) rfl (by show (if a = 0 then none else some (_, _)) = _; rw [if_neg (show ¬ a = 0 from lf_ne h_a 0)]) ?_
  refine e_getR (w := (a + 6)) (show decode (mC 39) 62 = .ok (.getfield 27, 3) by decide +kernel) (show pl 4 27 = some (0, 4, 9, 0) by decide +kernel) (by decide) (lf_ok hG h_a 0 (by decide)) (lf_rf hG h_a 5 (by decide)) ?_
  refine e_L (L' := [some (aR a), none, none, some (aI v3), some (aI v4), some (aI u0), none, none]) (st' := [aI v4, aR (a + 6), aI v3]) (show decode (mC 39) 65 = .ok (.iload 4, 2) by decide +kernel) rfl rfl ?_
  refine e_ialdx (n := 64) (show decode (mC 39) 67 = .ok (.iaload, 1) by decide +kernel) (lf_ok hG h_a 6 (by decide)) (lf_ln hG h_a 6 (by decide)) (by decide) s0 s1 ex1 ?_
  refine e_min (show decode (mC 39) 68 = .ok (.invokestatic 119, 3) by decide +kernel) (show pl 4 119 = some (16, 0, 0, 0) by decide +kernel) s3 s4 (show (0 : Nat) ≤ 20 by decide) ?_
  refine e_L (L' := [some (aR a), none, none, some (aI v3), some (aI v4), some (aI u0), some (aI (if x1 < v3 then x1 else v3)), none]) (st' := []) (show decode (mC 39) 71 = .ok (.istore 6, 2) by decide +kernel) rfl rfl ?_
  refine e_L (L' := [some (aR a), none, none, some (aI v3), some (aI v4), some (aI u0), some (aI (if x1 < v3 then x1 else v3)), none]) (st' := [aI v3]) (show decode (mC 39) 73 = .ok (.iload_n 3, 1) by decide +kernel) rfl rfl ?_
  refine e_L (L' := [some (aR a), none, none, some (aI v3), some (aI v4), some (aI u0), some (aI (if x1 < v3 then x1 else v3)), none]) (st' := [aI (if x1 < v3 then x1 else v3), aI v3]) (show decode (mC 39) 74 = .ok (.iload 6, 2) by decide +kernel) rfl rfl ?_
  refine e_P (st' := [aI (v3 - (if x1 < v3 then x1 else v3))]) (show decode (mC 39) 76 = .ok (.isub, 1) by decide +kernel) rfl rfl rfl ?_
  refine e_L (L' := [some (aR a), none, none, some (aI v3), some (aI v4), some (aI u0), some (aI (if x1 < v3 then x1 else v3)), none]) (st' := [aR a, aI (v3 - (if x1 < v3 then x1 else v3))]) (show decode (mC 39) 77 = .ok (.aload_n 0, 1) by decide +kernel) rfl (by show (if a = 0 then none else some (_, _)) = _; rw [if_neg (show ¬ a = 0 from lf_ne h_a 0)]) ?_
  refine e_getR (w := (a + 6)) (show decode (mC 39) 78 = .ok (.getfield 27, 3) by decide +kernel) (show pl 4 27 = some (0, 4, 9, 0) by decide +kernel) (by decide) (lf_ok hG h_a 0 (by decide)) (lf_rf hG h_a 5 (by decide)) ?_
  refine e_L (L' := [some (aR a), none, none, some (aI v3), some (aI v4), some (aI u0), some (aI (if x1 < v3 then x1 else v3)), none]) (st' := [aI u0, aR (a + 6), aI (v3 - (if x1 < v3 then x1 else v3))]) (show decode (mC 39) 81 = .ok (.iload 5, 2) by decide +kernel) rfl rfl ?_
  refine e_ialdx (n := 64) (show decode (mC 39) 83 = .ok (.iaload, 1) by decide +kernel) (lf_ok hG h_a 6 (by decide)) (lf_ln hG h_a 6 (by decide)) (by decide) s5 s6 ex2 ?_
  refine e_min (show decode (mC 39) 84 = .ok (.invokestatic 119, 3) by decide +kernel) (show pl 4 119 = some (16, 0, 0, 0) by decide +kernel) s8 s9 (show (0 : Nat) ≤ 20 by decide) ?_
  refine e_L (L' := [some (aR a), none, none, some (aI v3), some (aI v4), some (aI u0), some (aI (if x1 < v3 then x1 else v3)), some (aI (if x2 < (v3 - (if x1 < v3 then x1 else v3)) then x2 else (v3 - (if x1 < v3 then x1 else v3))))]) (st' := []) (show decode (mC 39) 87 = .ok (.istore 7, 2) by decide +kernel) rfl rfl ?_
  refine e_L (L' := [some (aR a), none, none, some (aI v3), some (aI v4), some (aI u0), some (aI (if x1 < v3 then x1 else v3)), some (aI (if x2 < (v3 - (if x1 < v3 then x1 else v3)) then x2 else (v3 - (if x1 < v3 then x1 else v3))))]) (st' := [aR a]) (show decode (mC 39) 89 = .ok (.aload_n 0, 1) by decide +kernel) rfl (by show (if a = 0 then none else some (_, _)) = _; rw [if_neg (show ¬ a = 0 from lf_ne h_a 0)]) ?_
  refine e_getR (w := (a + 6)) (show decode (mC 39) 90 = .ok (.getfield 27, 3) by decide +kernel) (show pl 4 27 = some (0, 4, 9, 0) by decide +kernel) (by decide) (lf_ok hG h_a 0 (by decide)) (lf_rf hG h_a 5 (by decide)) ?_
  refine e_L (L' := [some (aR a), none, none, some (aI v3), some (aI v4), some (aI u0), some (aI (if x1 < v3 then x1 else v3)), some (aI (if x2 < (v3 - (if x1 < v3 then x1 else v3)) then x2 else (v3 - (if x1 < v3 then x1 else v3))))]) (st' := [aI v4, aR (a + 6)]) (show decode (mC 39) 93 = .ok (.iload 4, 2) by decide +kernel) rfl rfl ?_
  refine e_P (st' := [aI v4, aR (a + 6), aI v4, aR (a + 6)]) (show decode (mC 39) 95 = .ok (.dup2, 1) by decide +kernel) rfl rfl rfl ?_
  refine e_ialdx (n := 64) (show decode (mC 39) 96 = .ok (.iaload, 1) by decide +kernel) (lf_ok hG h_a 6 (by decide)) (lf_ln hG h_a 6 (by decide)) (by decide) s0 s1 ex3 ?_
  refine e_L (L' := [some (aR a), none, none, some (aI v3), some (aI v4), some (aI u0), some (aI (if x1 < v3 then x1 else v3)), some (aI (if x2 < (v3 - (if x1 < v3 then x1 else v3)) then x2 else (v3 - (if x1 < v3 then x1 else v3))))]) (st' := [aI (if x1 < v3 then x1 else v3), aI x3, aI v4, aR (a + 6)]) (show decode (mC 39) 97 = .ok (.iload 6, 2) by decide +kernel) rfl rfl ?_
  refine e_P (st' := [aI (x3 - (if x1 < v3 then x1 else v3)), aI v4, aR (a + 6)]) (show decode (mC 39) 99 = .ok (.isub, 1) by decide +kernel) rfl rfl rfl ?_
  refine e_iast (n := 64) (show decode (mC 39) 100 = .ok (.iastore, 1) by decide +kernel) (lf_ok hG h_a 6 (by decide)) (lf_ln hG h_a 6 (by decide)) (by decide) s0 s1 ?_
  refine e_L (L' := [some (aR a), none, none, some (aI v3), some (aI v4), some (aI u0), some (aI (if x1 < v3 then x1 else v3)), some (aI (if x2 < (v3 - (if x1 < v3 then x1 else v3)) then x2 else (v3 - (if x1 < v3 then x1 else v3))))]) (st' := [aR a]) (show decode (mC 39) 101 = .ok (.aload_n 0, 1) by decide +kernel) rfl (by show (if a = 0 then none else some (_, _)) = _; rw [if_neg (show ¬ a = 0 from lf_ne h_a 0)]) ?_
  refine e_getR (w := (a + 6)) (show decode (mC 39) 102 = .ok (.getfield 27, 3) by decide +kernel) (show pl 4 27 = some (0, 4, 9, 0) by decide +kernel) (by decide) (lf_ok hG h_a 0 (by decide)) (lf_rf hG h_a 5 (by decide)) ?_
  refine e_L (L' := [some (aR a), none, none, some (aI v3), some (aI v4), some (aI u0), some (aI (if x1 < v3 then x1 else v3)), some (aI (if x2 < (v3 - (if x1 < v3 then x1 else v3)) then x2 else (v3 - (if x1 < v3 then x1 else v3))))]) (st' := [aI u0, aR (a + 6)]) (show decode (mC 39) 105 = .ok (.iload 5, 2) by decide +kernel) rfl rfl ?_
  refine e_P (st' := [aI u0, aR (a + 6), aI u0, aR (a + 6)]) (show decode (mC 39) 107 = .ok (.dup2, 1) by decide +kernel) rfl rfl rfl ?_
  refine e_ialdx (n := 64) (show decode (mC 39) 108 = .ok (.iaload, 1) by decide +kernel) (lf_ok hG h_a 6 (by decide)) (lf_ln hG h_a 6 (by decide)) (by decide) s5 s6 ex4 ?_
  refine e_L (L' := [some (aR a), none, none, some (aI v3), some (aI v4), some (aI u0), some (aI (if x1 < v3 then x1 else v3)), some (aI (if x2 < (v3 - (if x1 < v3 then x1 else v3)) then x2 else (v3 - (if x1 < v3 then x1 else v3))))]) (st' := [aI (if x2 < (v3 - (if x1 < v3 then x1 else v3)) then x2 else (v3 - (if x1 < v3 then x1 else v3))), aI x4, aI u0, aR (a + 6)]) (show decode (mC 39) 109 = .ok (.iload 7, 2) by decide +kernel) rfl rfl ?_
  refine e_P (st' := [aI (x4 - (if x2 < (v3 - (if x1 < v3 then x1 else v3)) then x2 else (v3 - (if x1 < v3 then x1 else v3)))), aI u0, aR (a + 6)]) (show decode (mC 39) 111 = .ok (.isub, 1) by decide +kernel) rfl rfl rfl ?_
  refine e_iast (n := 64) (show decode (mC 39) 112 = .ok (.iastore, 1) by decide +kernel) (lf_ok hG h_a 6 (by decide)) (lf_ln hG h_a 6 (by decide)) (by decide) s5 s6 ?_
  refine e_L (L' := [some (aR a), none, none, some (aI v3), some (aI v4), some (aI u0), some (aI (if x1 < v3 then x1 else v3)), some (aI (if x2 < (v3 - (if x1 < v3 then x1 else v3)) then x2 else (v3 - (if x1 < v3 then x1 else v3))))]) (st' := [aI (if x1 < v3 then x1 else v3)]) (show decode (mC 39) 113 = .ok (.iload 6, 2) by decide +kernel) rfl rfl ?_
  refine e_L (L' := [some (aR a), none, none, some (aI v3), some (aI v4), some (aI u0), some (aI (if x1 < v3 then x1 else v3)), some (aI (if x2 < (v3 - (if x1 < v3 then x1 else v3)) then x2 else (v3 - (if x1 < v3 then x1 else v3))))]) (st' := [aI (if x2 < (v3 - (if x1 < v3 then x1 else v3)) then x2 else (v3 - (if x1 < v3 then x1 else v3))), aI (if x1 < v3 then x1 else v3)]) (show decode (mC 39) 115 = .ok (.iload 7, 2) by decide +kernel) rfl rfl ?_
  refine e_P (st' := [aI ((if x1 < v3 then x1 else v3) + (if x2 < (v3 - (if x1 < v3 then x1 else v3)) then x2 else (v3 - (if x1 < v3 then x1 else v3))))]) (show decode (mC 39) 117 = .ok (.iadd, 1) by decide +kernel) rfl rfl rfl ?_
  exact e_iret (show decode (mC 39) 118 = .ok (.ireturn, 1) by decide +kernel) rfl z12
/-- SoulOffice$Life.grow()V, from 0 -/
theorem b40_0 (hG : Shp G) {x1 : Int} {a : Nat} (h_a : Life a)
    (ex1 : c 9 2 = x1)
    (s1 : -2147483648 ≤ x1 ∧ x1 < 2147483648)
    (k2 : (¬ x1 = 0) → T d 40 13 [some (aR a), some (aI 0), none] [] (G, c) Q)
    (z3 : (x1 = 0) → Q (.inl none) (G, c)) :
    T d 40 0 [some (aR a), none, none] [] (G, c) Q := by
  refine e_L (L' := [some (aR a), none, none]) (st' := [aR a]) (show decode (mC 40) 0 = .ok (.aload_n 0, 1) by decide +kernel) rfl (by show (if a = 0 then none else some (_, _)) = _; rw [if_neg (show ¬ a = 0 from lf_ne h_a 0)]) ?_
  refine e_getR (w := 9) (show decode (mC 40) 1 = .ok (.getfield 33, 3) by decide +kernel) (show pl 4 33 = some (0, 4, 0, 0) by decide +kernel) (by decide) (lf_ok hG h_a 0 (by decide)) (lf_r0 hG h_a) ?_
  refine e_getIx (show decode (mC 40) 4 = .ok (.getfield 122, 3) by decide +kernel) (show pl 4 122 = some (0, 8, 2, 0) by decide +kernel) (by decide) (sh_ok hG (by decide +kernel)) ex1 ?_
  refine e_ne1 (t := 11) (show decode (mC 40) 7 = .ok (.ifCond .ne 4, 3) by decide +kernel) (by decide) s1 (fun p1 => ?_) (fun p1 => ?_)
  · refine e_P (st' := [aI 0]) (show decode (mC 40) 11 = .ok (.iconst 0, 1) by decide +kernel) rfl rfl rfl ?_
    refine e_L (L' := [some (aR a), some (aI 0), none]) (st' := []) (show decode (mC 40) 12 = .ok (.istore_n 1, 1) by decide +kernel) rfl rfl ?_
    exact (k2 p1)
  · exact e_vret (show decode (mC 40) 10 = .ok (.return_, 1) by decide +kernel) rfl (z3 p1)
/-- SoulOffice$Life.grow()V, from 13 -/
theorem b40_13 (hG : Shp G) {v1 x1 x2 x3 x4 x5 : Int} {a : Nat} (h_a : Life a) (hQ : ∀ o o' h', q_eqo o o' → Q o h' → Q o' h')
    (s0 : -2147483648 ≤ v1 ∧ v1 < 2147483648)
    (z1 : (64 ≤ v1) → Q (.inl none) (G, c))
    (s2 : (v1 < 64) → 0 ≤ v1)
    (s3 : (v1 < 64) → v1 < 64)
    (ex1 : c (a + 6) v1 = x1)
    (s5 : (v1 < 64) → -2147483648 ≤ x1 ∧ x1 < 2147483648)
    (k6 : (v1 < 64) → (x1 ≤ 0) → T d 40 13 [some (aR a), some (aI (v1 + 1)), none] [] (G, c) Q)
    (ex2 : c (a + 6) v1 = x2)
    (ex3 : c 9 2 = x3)
    (s9 : (v1 < 64) → (0 < x1) → -2147483648 ≤ (x2 + x3) ∧ (x2 + x3) < 2147483648)
    (ex4 : c a 3 = x4)
    (ex5 : c (a + 6) v1 = x5)
    (k12 : (v1 < 64) → (0 < x1) → T d 40 13 [some (aR a), some (aI (v1 + 1)), none] [] (G, (q_up (q_up c a 3 (x4 + ((if 99999 < (x2 + x3) then 99999 else (x2 + x3)) - x5))) (a + 6) v1 (if 99999 < (x2 + x3) then 99999 else (x2 + x3)))) Q) :
    T d 40 13 [some (aR a), some (aI v1), none] [] (G, c) Q := by
  refine e_L (L' := [some (aR a), some (aI v1), none]) (st' := [aI v1]) (show decode (mC 40) 13 = .ok (.iload_n 1, 1) by decide +kernel) rfl rfl ?_
  refine e_L (L' := [some (aR a), some (aI v1), none]) (st' := [aR a, aI v1]) (show decode (mC 40) 14 = .ok (.aload_n 0, 1) by decide +kernel) rfl (by show (if a = 0 then none else some (_, _)) = _; rw [if_neg (show ¬ a = 0 from lf_ne h_a 0)]) ?_
  refine e_getR (w := (a + 6)) (show decode (mC 40) 15 = .ok (.getfield 27, 3) by decide +kernel) (show pl 4 27 = some (0, 4, 9, 0) by decide +kernel) (by decide) (lf_ok hG h_a 0 (by decide)) (lf_rf hG h_a 5 (by decide)) ?_
  refine e_alen (n := 64) (ki := 20) (show decode (mC 40) 18 = .ok (.arraylength, 1) by decide +kernel) (lf_ok hG h_a 6 (by decide)) (by decide) (lf_ln hG h_a 6 (by decide)) ?_
  refine e_ge2 (t := 81) (show decode (mC 40) 19 = .ok (.if_icmp .ge 62, 3) by decide +kernel) (by decide) s0 (by decide) (fun p1 => ?_) (fun p1 => ?_)
  · exact e_vret (show decode (mC 40) 81 = .ok (.return_, 1) by decide +kernel) rfl (z1 p1)
  · refine e_L (L' := [some (aR a), some (aI v1), none]) (st' := [aR a]) (show decode (mC 40) 22 = .ok (.aload_n 0, 1) by decide +kernel) rfl (by show (if a = 0 then none else some (_, _)) = _; rw [if_neg (show ¬ a = 0 from lf_ne h_a 0)]) ?_
    refine e_getR (w := (a + 6)) (show decode (mC 40) 23 = .ok (.getfield 27, 3) by decide +kernel) (show pl 4 27 = some (0, 4, 9, 0) by decide +kernel) (by decide) (lf_ok hG h_a 0 (by decide)) (lf_rf hG h_a 5 (by decide)) ?_
    refine e_L (L' := [some (aR a), some (aI v1), none]) (st' := [aI v1, aR (a + 6)]) (show decode (mC 40) 26 = .ok (.iload_n 1, 1) by decide +kernel) rfl rfl ?_
    refine e_ialdx (n := 64) (show decode (mC 40) 27 = .ok (.iaload, 1) by decide +kernel) (lf_ok hG h_a 6 (by decide)) (lf_ln hG h_a 6 (by decide)) (by decide) (s2 p1) (s3 p1) ex1 ?_
    refine e_le1 (t := 75) (show decode (mC 40) 28 = .ok (.ifCond .le 47, 3) by decide +kernel) (by decide) (s5 p1) (fun p2 => ?_) (fun p2 => ?_)
    · refine e_L (L' := [some (aR a), some (aI (v1 + 1)), none]) (st' := []) (show decode (mC 40) 75 = .ok (.iinc 1 1, 3) by decide +kernel) rfl rfl ?_
      refine e_go (t := 13) (show decode (mC 40) 78 = .ok (.goto (-65), 3) by decide +kernel) (by decide) ?_
      exact (k6 p1 p2)
    · refine e_L (L' := [some (aR a), some (aI v1), none]) (st' := [aR a]) (show decode (mC 40) 31 = .ok (.aload_n 0, 1) by decide +kernel) rfl (by show (if a = 0 then none else some (_, _)) = _; rw [if_neg (show ¬ a = 0 from lf_ne h_a 0)]) ?_
      refine e_getR (w := (a + 6)) (show decode (mC 40) 32 = .ok (.getfield 27, 3) by decide +kernel) (show pl 4 27 = some (0, 4, 9, 0) by decide +kernel) (by decide) (lf_ok hG h_a 0 (by decide)) (lf_rf hG h_a 5 (by decide)) ?_
      refine e_L (L' := [some (aR a), some (aI v1), none]) (st' := [aI v1, aR (a + 6)]) (show decode (mC 40) 35 = .ok (.iload_n 1, 1) by decide +kernel) rfl rfl ?_
      refine e_ialdx (n := 64) (show decode (mC 40) 36 = .ok (.iaload, 1) by decide +kernel) (lf_ok hG h_a 6 (by decide)) (lf_ln hG h_a 6 (by decide)) (by decide) (s2 p1) (s3 p1) ex2 ?_
      refine e_L (L' := [some (aR a), some (aI v1), none]) (st' := [aR a, aI x2]) (show decode (mC 40) 37 = .ok (.aload_n 0, 1) by decide +kernel) rfl (by show (if a = 0 then none else some (_, _)) = _; rw [if_neg (show ¬ a = 0 from lf_ne h_a 0)]) ?_
      refine e_getR (w := 9) (show decode (mC 40) 38 = .ok (.getfield 33, 3) by decide +kernel) (show pl 4 33 = some (0, 4, 0, 0) by decide +kernel) (by decide) (lf_ok hG h_a 0 (by decide)) (lf_r0 hG h_a) ?_
      refine e_getIx (show decode (mC 40) 41 = .ok (.getfield 122, 3) by decide +kernel) (show pl 4 122 = some (0, 8, 2, 0) by decide +kernel) (by decide) (sh_ok hG (by decide +kernel)) ex3 ?_
      refine e_P (st' := [aI (x2 + x3)]) (show decode (mC 40) 44 = .ok (.iadd, 1) by decide +kernel) rfl rfl rfl ?_
      refine e_ldc (show decode (mC 40) 45 = .ok (.ldc 125, 2) by decide +kernel) (show pl 4 125 = some (8, 0, 0, 99999) by decide +kernel) ?_
      refine e_min (show decode (mC 40) 47 = .ok (.invokestatic 119, 3) by decide +kernel) (show pl 4 119 = some (16, 0, 0, 0) by decide +kernel) (s9 p1 p2) (by decide) (show (0 : Nat) ≤ 20 by decide) ?_
      refine e_L (L' := [some (aR a), some (aI v1), some (aI (if 99999 < (x2 + x3) then 99999 else (x2 + x3)))]) (st' := []) (show decode (mC 40) 50 = .ok (.istore_n 2, 1) by decide +kernel) rfl rfl ?_
      refine e_L (L' := [some (aR a), some (aI v1), some (aI (if 99999 < (x2 + x3) then 99999 else (x2 + x3)))]) (st' := [aR a]) (show decode (mC 40) 51 = .ok (.aload_n 0, 1) by decide +kernel) rfl (by show (if a = 0 then none else some (_, _)) = _; rw [if_neg (show ¬ a = 0 from lf_ne h_a 0)]) ?_
      refine e_P (st' := [aR a, aR a]) (show decode (mC 40) 52 = .ok (.dup, 1) by decide +kernel) rfl rfl rfl ?_
      refine e_getIx (show decode (mC 40) 53 = .ok (.getfield 44, 3) by decide +kernel) (show pl 4 44 = some (0, 4, 3, 0) by decide +kernel) (by decide) (lf_ok hG h_a 0 (by decide)) ex4 ?_
      refine e_L (L' := [some (aR a), some (aI v1), some (aI (if 99999 < (x2 + x3) then 99999 else (x2 + x3)))]) (st' := [aI (if 99999 < (x2 + x3) then 99999 else (x2 + x3)), aI x4, aR a]) (show decode (mC 40) 56 = .ok (.iload_n 2, 1) by decide +kernel) rfl rfl ?_
      refine e_L (L' := [some (aR a), some (aI v1), some (aI (if 99999 < (x2 + x3) then 99999 else (x2 + x3)))]) (st' := [aR a, aI (if 99999 < (x2 + x3) then 99999 else (x2 + x3)), aI x4, aR a]) (show decode (mC 40) 57 = .ok (.aload_n 0, 1) by decide +kernel) rfl (by show (if a = 0 then none else some (_, _)) = _; rw [if_neg (show ¬ a = 0 from lf_ne h_a 0)]) ?_
      refine e_getR (w := (a + 6)) (show decode (mC 40) 58 = .ok (.getfield 27, 3) by decide +kernel) (show pl 4 27 = some (0, 4, 9, 0) by decide +kernel) (by decide) (lf_ok hG h_a 0 (by decide)) (lf_rf hG h_a 5 (by decide)) ?_
      refine e_L (L' := [some (aR a), some (aI v1), some (aI (if 99999 < (x2 + x3) then 99999 else (x2 + x3)))]) (st' := [aI v1, aR (a + 6), aI (if 99999 < (x2 + x3) then 99999 else (x2 + x3)), aI x4, aR a]) (show decode (mC 40) 61 = .ok (.iload_n 1, 1) by decide +kernel) rfl rfl ?_
      refine e_ialdx (n := 64) (show decode (mC 40) 62 = .ok (.iaload, 1) by decide +kernel) (lf_ok hG h_a 6 (by decide)) (lf_ln hG h_a 6 (by decide)) (by decide) (s2 p1) (s3 p1) ex5 ?_
      refine e_P (st' := [aI ((if 99999 < (x2 + x3) then 99999 else (x2 + x3)) - x5), aI x4, aR a]) (show decode (mC 40) 63 = .ok (.isub, 1) by decide +kernel) rfl rfl rfl ?_
      refine e_P (st' := [aI (x4 + ((if 99999 < (x2 + x3) then 99999 else (x2 + x3)) - x5)), aR a]) (show decode (mC 40) 64 = .ok (.iadd, 1) by decide +kernel) rfl rfl rfl ?_
      refine e_putI (show decode (mC 40) 65 = .ok (.putfield 44, 3) by decide +kernel) (show pl 4 44 = some (0, 4, 3, 0) by decide +kernel) (by decide) (lf_ok hG h_a 0 (by decide)) ?_
      refine e_L (L' := [some (aR a), some (aI v1), some (aI (if 99999 < (x2 + x3) then 99999 else (x2 + x3)))]) (st' := [aR a]) (show decode (mC 40) 68 = .ok (.aload_n 0, 1) by decide +kernel) rfl (by show (if a = 0 then none else some (_, _)) = _; rw [if_neg (show ¬ a = 0 from lf_ne h_a 0)]) ?_
      refine e_getR (w := (a + 6)) (show decode (mC 40) 69 = .ok (.getfield 27, 3) by decide +kernel) (show pl 4 27 = some (0, 4, 9, 0) by decide +kernel) (by decide) (lf_ok hG h_a 0 (by decide)) (lf_rf hG h_a 5 (by decide)) ?_
      refine e_L (L' := [some (aR a), some (aI v1), some (aI (if 99999 < (x2 + x3) then 99999 else (x2 + x3)))]) (st' := [aI v1, aR (a + 6)]) (show decode (mC 40) 72 = .ok (.iload_n 1, 1) by decide +kernel) rfl rfl ?_
      refine e_L (L' := [some (aR a), some (aI v1), some (aI (if 99999 < (x2 + x3) then 99999 else (x2 + x3)))]) (st' := [aI (if 99999 < (x2 + x3) then 99999 else (x2 + x3)), aI v1, aR (a + 6)]) (show decode (mC 40) 73 = .ok (.iload_n 2, 1) by decide +kernel) rfl rfl ?_
      refine e_iast (n := 64) (show decode (mC 40) 74 = .ok (.iastore, 1) by decide +kernel) (lf_ok hG h_a 6 (by decide)) (lf_ln hG h_a 6 (by decide)) (by decide) (s2 p1) (s3 p1) ?_
      refine e_L (L' := [some (aR a), some (aI (v1 + 1)), some (aI (if 99999 < (x2 + x3) then 99999 else (x2 + x3)))]) (st' := []) (show decode (mC 40) 75 = .ok (.iinc 1 1, 3) by decide +kernel) rfl rfl ?_
      refine e_go (t := 13) (show decode (mC 40) 78 = .ok (.goto (-65), 3) by decide +kernel) (by decide) ?_
      exact T_le hQ (leS (leS (leN leE))) (k12 p1 p2)
end QB5
