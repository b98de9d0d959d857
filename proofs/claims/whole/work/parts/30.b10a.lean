section QB0
variable {d : Nat} {G : GG} {c : CC} {Q : OO → HH → Prop}
/-- SoulOffice$Tape.addNumber(I)V, from 0 -/
theorem b94_0 (hG : Shp G) {v1 : Int}
    (k0 : T d 94 3 [some (aR 2), some (aI v1), some (aI 24)] [] (G, c) Q) :
    T d 94 0 [some (aR 2), some (aI v1), none] [] (G, c) Q := by
  refine e_P (st' := [aI 24]) (show decode (mC 94) 0 = .ok (.bipush 24, 2) by decide +kernel) rfl rfl rfl ?_
  refine e_L (L' := [some (aR 2), some (aI v1), some (aI 24)]) (st' := []) (show decode (mC 94) 2 = .ok (.istore_n 2, 1) by decide +kernel) rfl rfl ?_
  exact k0
/-- SoulOffice$Tape.addNumber(I)V, from 3 -/
theorem b94_3 (hG : Shp G) {v1 v2 x1 x2 x3 : Int}
    (s0 : -2147483648 ≤ v2 ∧ v2 < 2147483648)
    (z1 : (v2 < 0) → Q (.inl none) (G, c))
    (ex1 : c 2 1 = x1)
    (s3 : (0 ≤ v2) → -2147483648 ≤ x1 ∧ x1 < 2147483648)
    (k4 : (0 ≤ v2) → (940 ≤ x1) → T d 94 3 [some (aR 2), some (aI v1), some (aI (v2 + (-8)))] [] (G, c) Q)
    (ex2 : c 2 1 = x2)
    (s6 : (0 ≤ v2) → (x1 < 940) → 0 ≤ x2)
    (s7 : (0 ≤ v2) → (x1 < 940) → x2 < 940)
    (ex3 : (q_up c 3 x2 (q_and (q_ush v1 v2) 255)) 2 1 = x3)
    (k9 : (0 ≤ v2) → (x1 < 940) → T d 94 3 [some (aR 2), some (aI v1), some (aI (v2 + (-8)))] [] (G, (q_up (q_up c 3 x2 (q_and (q_ush v1 v2) 255)) 2 1 (x3 + 1))) Q) :
    T d 94 3 [some (aR 2), some (aI v1), some (aI v2)] [] (G, c) Q := by
  refine e_L (L' := [some (aR 2), some (aI v1), some (aI v2)]) (st' := [aI v2]) (show decode (mC 94) 3 = .ok (.iload_n 2, 1) by decide +kernel) rfl rfl ?_
  refine e_lt1 (t := 49) (show decode (mC 94) 4 = .ok (.ifCond .lt 45, 3) by decide +kernel) (by decide) s0 (fun p1 => ?_) (fun p1 => ?_)
  · exact e_vret (show decode (mC 94) 49 = .ok (.return_, 1) by decide +kernel) rfl (z1 p1)
  · refine e_L (L' := [some (aR 2), some (aI v1), some (aI v2)]) (st' := [aR 2]) (show decode (mC 94) 7 = .ok (.aload_n 0, 1) by decide +kernel) rfl (by show (if 2 = 0 then none else some (_, _)) = _; rw [if_neg (by decide)]) ?_
    refine e_getIx (show decode (mC 94) 8 = .ok (.getfield 35, 3) by decide +kernel) (show pl 10 35 = some (0, 10, 1, 0) by decide +kernel) (by decide) (sh_ok hG (by decide +kernel)) ex1 ?_
    refine e_P (st' := [aI 940, aI x1]) (show decode (mC 94) 11 = .ok (.sipush 940, 3) by decide +kernel) rfl rfl rfl ?_
    refine e_ge2 (t := 43) (show decode (mC 94) 14 = .ok (.if_icmp .ge 29, 3) by decide +kernel) (by decide) (s3 p1) (by decide) (fun p2 => ?_) (fun p2 => ?_)
    · refine e_L (L' := [some (aR 2), some (aI v1), some (aI (v2 + (-8)))]) (st' := []) (show decode (mC 94) 43 = .ok (.iinc 2 (-8), 3) by decide +kernel) rfl rfl ?_
      refine e_go (t := 3) (show decode (mC 94) 46 = .ok (.goto (-43), 3) by decide +kernel) (by decide) ?_
      exact (k4 p1 p2)
    · refine e_L (L' := [some (aR 2), some (aI v1), some (aI v2)]) (st' := [aR 2]) (show decode (mC 94) 17 = .ok (.aload_n 0, 1) by decide +kernel) rfl (by show (if 2 = 0 then none else some (_, _)) = _; rw [if_neg (by decide)]) ?_
      refine e_getR (w := 3) (show decode (mC 94) 18 = .ok (.getfield 9, 3) by decide +kernel) (show pl 10 9 = some (0, 10, 0, 0) by decide +kernel) (by decide) (sh_ok hG (by decide +kernel)) (sh_rf hG (by decide +kernel)) ?_
      refine e_L (L' := [some (aR 2), some (aI v1), some (aI v2)]) (st' := [aR 2, aR 3]) (show decode (mC 94) 21 = .ok (.aload_n 0, 1) by decide +kernel) rfl (by show (if 2 = 0 then none else some (_, _)) = _; rw [if_neg (by decide)]) ?_
      refine e_getIx (show decode (mC 94) 22 = .ok (.getfield 35, 3) by decide +kernel) (show pl 10 35 = some (0, 10, 1, 0) by decide +kernel) (by decide) (sh_ok hG (by decide +kernel)) ex2 ?_
      refine e_L (L' := [some (aR 2), some (aI v1), some (aI v2)]) (st' := [aI v1, aI x2, aR 3]) (show decode (mC 94) 25 = .ok (.iload_n 1, 1) by decide +kernel) rfl rfl ?_
      refine e_L (L' := [some (aR 2), some (aI v1), some (aI v2)]) (st' := [aI v2, aI v1, aI x2, aR 3]) (show decode (mC 94) 26 = .ok (.iload_n 2, 1) by decide +kernel) rfl rfl ?_
      refine e_P (st' := [aI (q_ush v1 v2), aI x2, aR 3]) (show decode (mC 94) 27 = .ok (.iushr, 1) by decide +kernel) rfl rfl rfl ?_
      refine e_P (st' := [aI 255, aI (q_ush v1 v2), aI x2, aR 3]) (show decode (mC 94) 28 = .ok (.sipush 255, 3) by decide +kernel) rfl rfl rfl ?_
      refine e_P (st' := [aI (q_and (q_ush v1 v2) 255), aI x2, aR 3]) (show decode (mC 94) 31 = .ok (.iand, 1) by decide +kernel) rfl rfl rfl ?_
      refine e_iast (n := 940) (show decode (mC 94) 32 = .ok (.iastore, 1) by decide +kernel) (sh_ok hG (by decide +kernel)) (sh_ln hG (by decide +kernel)) (by decide) (s6 p1 p2) (s7 p1 p2) ?_
      refine e_L (L' := [some (aR 2), some (aI v1), some (aI v2)]) (st' := [aR 2]) (show decode (mC 94) 33 = .ok (.aload_n 0, 1) by decide +kernel) rfl (by show (if 2 = 0 then none else some (_, _)) = _; rw [if_neg (by decide)]) ?_
      refine e_P (st' := [aR 2, aR 2]) (show decode (mC 94) 34 = .ok (.dup, 1) by decide +kernel) rfl rfl rfl ?_
      refine e_getIx (show decode (mC 94) 35 = .ok (.getfield 35, 3) by decide +kernel) (show pl 10 35 = some (0, 10, 1, 0) by decide +kernel) (by decide) (sh_ok hG (by decide +kernel)) ex3 ?_
      refine e_P (st' := [aI 1, aI x3, aR 2]) (show decode (mC 94) 38 = .ok (.iconst 1, 1) by decide +kernel) rfl rfl rfl ?_
      refine e_P (st' := [aI (x3 + 1), aR 2]) (show decode (mC 94) 39 = .ok (.iadd, 1) by decide +kernel) rfl rfl rfl ?_
      refine e_putI (show decode (mC 94) 40 = .ok (.putfield 35, 3) by decide +kernel) (show pl 10 35 = some (0, 10, 1, 0) by decide +kernel) (by decide) (sh_ok hG (by decide +kernel)) ?_
      refine e_L (L' := [some (aR 2), some (aI v1), some (aI (v2 + (-8)))]) (st' := []) (show decode (mC 94) 43 = .ok (.iinc 2 (-8), 3) by decide +kernel) rfl rfl ?_
      refine e_go (t := 3) (show decode (mC 94) 46 = .ok (.goto (-43), 3) by decide +kernel) (by decide) ?_
      exact (k9 p1 p2)
/-- SoulOffice$Tape.beginReading(I)V, from 0 -/
theorem b95_0 (hG : Shp G) {v1 x1 x2 x3 x4 x5 : Int} (hQ : ∀ o o' h', q_eqo o o' → Q o h' → Q o' h')
    (ex1 : (q_up c 2 14 0) 2 1 = x1)
    (s1 : -2147483648 ≤ x1 ∧ x1 < 2147483648)
    (s2 : -2147483648 ≤ v1 ∧ v1 < 2147483648)
    (ex2 : (q_up (q_up c 2 14 0) 2 9 0) 2 9 = x2)
    (s4 : (x1 ≤ v1) → -2147483648 ≤ x2 ∧ x2 < 2147483648)
    (ex3 : (q_up (q_up c 2 14 0) 2 9 0) 2 1 = x3)
    (k6 : (x1 ≤ v1) → (x2 = 0) → T (d + 1) 95 48 [some (aR 2), none, some (aI x3), some (aI 0), some (aI 0), none] [] (G, (q_up (q_up (q_up c 2 14 0) 2 9 0) 2 7 0)) Q)
    (k7 : (x1 ≤ v1) → (¬ x2 = 0) → T (d + 1) 95 48 [some (aR 2), none, some (aI v1), some (aI 0), some (aI 0), none] [] (G, (q_up (q_up (q_up c 2 14 0) 2 9 0) 2 7 0)) Q)
    (ex4 : (q_up (q_up c 2 14 0) 2 9 1) 2 9 = x4)
    (s9 : (v1 < x1) → -2147483648 ≤ x4 ∧ x4 < 2147483648)
    (ex5 : (q_up (q_up c 2 14 0) 2 9 1) 2 1 = x5)
    (k11 : (v1 < x1) → (x4 = 0) → T (d + 1) 95 48 [some (aR 2), none, some (aI x5), some (aI 0), some (aI 0), none] [] (G, (q_up (q_up (q_up c 2 14 0) 2 9 1) 2 7 0)) Q)
    (k12 : (v1 < x1) → (¬ x4 = 0) → T (d + 1) 95 48 [some (aR 2), none, some (aI v1), some (aI 0), some (aI 0), none] [] (G, (q_up (q_up (q_up c 2 14 0) 2 9 1) 2 7 0)) Q) :
    T (d + 1) 95 0 [some (aR 2), some (aI v1), none, none, none, none] [] (G, c) Q := by
  refine e_L (L' := [some (aR 2), some (aI v1), none, none, none, none]) (st' := [aR 2]) (show decode (mC 95) 0 = .ok (.aload_n 0, 1) by decide +kernel) rfl (by show (if 2 = 0 then none else some (_, _)) = _; rw [if_neg (by decide)]) ?_
  refine e_P (st' := [aI 0, aR 2]) (show decode (mC 95) 1 = .ok (.iconst 0, 1) by decide +kernel) rfl rfl rfl ?_
  refine e_putI (show decode (mC 95) 2 = .ok (.putfield 39, 3) by decide +kernel) (show pl 10 39 = some (0, 10, 14, 0) by decide +kernel) (by decide) (sh_ok hG (by decide +kernel)) ?_
  refine e_L (L' := [some (aR 2), some (aI v1), none, none, none, none]) (st' := [aR 2]) (show decode (mC 95) 5 = .ok (.aload_n 0, 1) by decide +kernel) rfl (by show (if 2 = 0 then none else some (_, _)) = _; rw [if_neg (by decide)]) ?_
  refine e_L (L' := [some (aR 2), some (aI v1), none, none, none, none]) (st' := [aR 2, aR 2]) (show decode (mC 95) 6 = .ok (.aload_n 0, 1) by decide +kernel) rfl (by show (if 2 = 0 then none else some (_, _)) = _; rw [if_neg (by decide)]) ?_
  refine e_getIx (show decode (mC 95) 7 = .ok (.getfield 35, 3) by decide +kernel) (show pl 10 35 = some (0, 10, 1, 0) by decide +kernel) (by decide) (sh_ok hG (by decide +kernel)) ex1 ?_
  refine e_L (L' := [some (aR 2), some (aI v1), none, none, none, none]) (st' := [aI v1, aI x1, aR 2]) (show decode (mC 95) 10 = .ok (.iload_n 1, 1) by decide +kernel) rfl rfl ?_
  refine e_le2 (t := 18) (show decode (mC 95) 11 = .ok (.if_icmp .le 7, 3) by decide +kernel) (by decide) s1 s2 (fun p1 => ?_) (fun p1 => ?_)
  · refine e_P (st' := [aI 0, aR 2]) (show decode (mC 95) 18 = .ok (.iconst 0, 1) by decide +kernel) rfl rfl rfl ?_
    refine e_putZ (show decode (mC 95) 19 = .ok (.putfield 42, 3) by decide +kernel) (show pl 10 42 = some (0, 10, 9, 0) by decide +kernel) (by decide) (sh_ok hG (by decide +kernel)) (by decide) ?_
    refine e_L (L' := [some (aR 2), some (aI v1), none, none, none, none]) (st' := [aR 2]) (show decode (mC 95) 22 = .ok (.aload_n 0, 1) by decide +kernel) rfl (by show (if 2 = 0 then none else some (_, _)) = _; rw [if_neg (by decide)]) ?_
    refine e_getIx (show decode (mC 95) 23 = .ok (.getfield 42, 3) by decide +kernel) (show pl 10 42 = some (0, 10, 9, 0) by decide +kernel) (by decide) (sh_ok hG (by decide +kernel)) ex2 ?_
    refine e_eq1 (t := 33) (show decode (mC 95) 26 = .ok (.ifCond .eq 7, 3) by decide +kernel) (by decide) (s4 p1) (fun p2 => ?_) (fun p2 => ?_)
    · refine e_L (L' := [some (aR 2), some (aI v1), none, none, none, none]) (st' := [aR 2]) (show decode (mC 95) 33 = .ok (.aload_n 0, 1) by decide +kernel) rfl (by show (if 2 = 0 then none else some (_, _)) = _; rw [if_neg (by decide)]) ?_
      refine e_getIx (show decode (mC 95) 34 = .ok (.getfield 35, 3) by decide +kernel) (show pl 10 35 = some (0, 10, 1, 0) by decide +kernel) (by decide) (sh_ok hG (by decide +kernel)) ex3 ?_
      refine e_L (L' := [some (aR 2), some (aI v1), some (aI x3), none, none, none]) (st' := []) (show decode (mC 95) 37 = .ok (.istore_n 2, 1) by decide +kernel) rfl rfl ?_
      refine e_L (L' := [some (aR 2), some (aI v1), some (aI x3), none, none, none]) (st' := [aR 2]) (show decode (mC 95) 38 = .ok (.aload_n 0, 1) by decide +kernel) rfl (by show (if 2 = 0 then none else some (_, _)) = _; rw [if_neg (by decide)]) ?_
      refine e_P (st' := [aI 0, aR 2]) (show decode (mC 95) 39 = .ok (.iconst 0, 1) by decide +kernel) rfl rfl rfl ?_
      refine e_putI (show decode (mC 95) 40 = .ok (.putfield 46, 3) by decide +kernel) (show pl 10 46 = some (0, 10, 7, 0) by decide +kernel) (by decide) (sh_ok hG (by decide +kernel)) ?_
      refine e_P (st' := [aI 0]) (show decode (mC 95) 43 = .ok (.iconst 0, 1) by decide +kernel) rfl rfl rfl ?_
      refine e_L (L' := [some (aR 2), some (aI v1), some (aI x3), some (aI 0), none, none]) (st' := []) (show decode (mC 95) 44 = .ok (.istore_n 3, 1) by decide +kernel) rfl rfl ?_
      refine e_P (st' := [aI 0]) (show decode (mC 95) 45 = .ok (.iconst 0, 1) by decide +kernel) rfl rfl rfl ?_
      refine e_L (L' := [some (aR 2), some (aI v1), some (aI x3), some (aI 0), some (aI 0), none]) (st' := []) (show decode (mC 95) 46 = .ok (.istore 4, 2) by decide +kernel) rfl rfl ?_
      exact T_le hQ (leS (leN (leS (leS (leS (leS leE)))))) (k6 p1 p2)
    · refine e_L (L' := [some (aR 2), some (aI v1), none, none, none, none]) (st' := [aI v1]) (show decode (mC 95) 29 = .ok (.iload_n 1, 1) by decide +kernel) rfl rfl ?_
      refine e_go (t := 37) (show decode (mC 95) 30 = .ok (.goto 7, 3) by decide +kernel) (by decide) ?_
      refine e_L (L' := [some (aR 2), some (aI v1), some (aI v1), none, none, none]) (st' := []) (show decode (mC 95) 37 = .ok (.istore_n 2, 1) by decide +kernel) rfl rfl ?_
      refine e_L (L' := [some (aR 2), some (aI v1), some (aI v1), none, none, none]) (st' := [aR 2]) (show decode (mC 95) 38 = .ok (.aload_n 0, 1) by decide +kernel) rfl (by show (if 2 = 0 then none else some (_, _)) = _; rw [if_neg (by decide)]) ?_
      refine e_P (st' := [aI 0, aR 2]) (show decode (mC 95) 39 = .ok (.iconst 0, 1) by decide +kernel) rfl rfl rfl ?_
      refine e_putI (show decode (mC 95) 40 = .ok (.putfield 46, 3) by decide +kernel) (show pl 10 46 = some (0, 10, 7, 0) by decide +kernel) (by decide) (sh_ok hG (by decide +kernel)) ?_
      refine e_P (st' := [aI 0]) (show decode (mC 95) 43 = .ok (.iconst 0, 1) by decide +kernel) rfl rfl rfl ?_
      refine e_L (L' := [some (aR 2), some (aI v1), some (aI v1), some (aI 0), none, none]) (st' := []) (show decode (mC 95) 44 = .ok (.istore_n 3, 1) by decide +kernel) rfl rfl ?_
      refine e_P (st' := [aI 0]) (show decode (mC 95) 45 = .ok (.iconst 0, 1) by decide +kernel) rfl rfl rfl ?_
      refine e_L (L' := [some (aR 2), some (aI v1), some (aI v1), some (aI 0), some (aI 0), none]) (st' := []) (show decode (mC 95) 46 = .ok (.istore 4, 2) by decide +kernel) rfl rfl ?_
      exact T_le hQ (leS (leN (leS (leS (leS (leS leE)))))) (k7 p1 p2)
  · refine e_P (st' := [aI 1, aR 2]) (show decode (mC 95) 14 = .ok (.iconst 1, 1) by decide +kernel) rfl rfl rfl ?_
    refine e_go (t := 19) (show decode (mC 95) 15 = .ok (.goto 4, 3) by decide +kernel) (by decide) ?_
    refine e_putZ (show decode (mC 95) 19 = .ok (.putfield 42, 3) by decide +kernel) (show pl 10 42 = some (0, 10, 9, 0) by decide +kernel) (by decide) (sh_ok hG (by decide +kernel)) (by decide) ?_
    refine e_L (L' := [some (aR 2), some (aI v1), none, none, none, none]) (st' := [aR 2]) (show decode (mC 95) 22 = .ok (.aload_n 0, 1) by decide +kernel) rfl (by show (if 2 = 0 then none else some (_, _)) = _; rw [if_neg (by decide)]) ?_
    refine e_getIx (show decode (mC 95) 23 = .ok (.getfield 42, 3) by decide +kernel) (show pl 10 42 = some (0, 10, 9, 0) by decide +kernel) (by decide) (sh_ok hG (by decide +kernel)) ex4 ?_
    refine e_eq1 (t := 33) (show decode (mC 95) 26 = .ok (.ifCond .eq 7, 3) by decide +kernel) (by decide) (s9 p1) (fun p2 => ?_) (fun p2 => ?_)
    · refine e_L (L' := [some (aR 2), some (aI v1), none, none, none, none]) (st' := [aR 2]) (show decode (mC 95) 33 = .ok (.aload_n 0, 1) by decide +kernel) rfl (by show (if 2 = 0 then none else some (_, _)) = _; rw [if_neg (by decide)]) ?_
      refine e_getIx (show decode (mC 95) 34 = .ok (.getfield 35, 3) by decide +kernel) (show pl 10 35 = some (0, 10, 1, 0) by decide +kernel) (by decide) (sh_ok hG (by decide +kernel)) ex5 ?_
      refine e_L (L' := [some (aR 2), some (aI v1), some (aI x5), none, none, none]) (st' := []) (show decode (mC 95) 37 = .ok (.istore_n 2, 1) by decide +kernel) rfl rfl ?_
      refine e_L (L' := [some (aR 2), some (aI v1), some (aI x5), none, none, none]) (st' := [aR 2]) (show decode (mC 95) 38 = .ok (.aload_n 0, 1) by decide +kernel) rfl (by show (if 2 = 0 then none else some (_, _)) = _; rw [if_neg (by decide)]) ?_
      refine e_P (st' := [aI 0, aR 2]) (show decode (mC 95) 39 = .ok (.iconst 0, 1) by decide +kernel) rfl rfl rfl ?_
      refine e_putI (show decode (mC 95) 40 = .ok (.putfield 46, 3) by decide +kernel) (show pl 10 46 = some (0, 10, 7, 0) by decide +kernel) (by decide) (sh_ok hG (by decide +kernel)) ?_
      refine e_P (st' := [aI 0]) (show decode (mC 95) 43 = .ok (.iconst 0, 1) by decide +kernel) rfl rfl rfl ?_
      refine e_L (L' := [some (aR 2), some (aI v1), some (aI x5), some (aI 0), none, none]) (st' := []) (show decode (mC 95) 44 = .ok (.istore_n 3, 1) by decide +kernel) rfl rfl ?_
      refine e_P (st' := [aI 0]) (show decode (mC 95) 45 = .ok (.iconst 0, 1) by decide +kernel) rfl rfl rfl ?_
      refine e_L (L' := [some (aR 2), some (aI v1), some (aI x5), some (aI 0), some (aI 0), none]) (st' := []) (show decode (mC 95) 46 = .ok (.istore 4, 2) by decide +kernel) rfl rfl ?_
      exact T_le hQ (leS (leN (leS (leS (leS (leS leE)))))) (k11 p1 p2)
    · refine e_L (L' := [some (aR 2), some (aI v1), none, none, none, none]) (st' := [aI v1]) (show decode (mC 95) 29 = .ok (.iload_n 1, 1) by decide +kernel) rfl rfl ?_
      refine e_go (t := 37) (show decode (mC 95) 30 = .ok (.goto 7, 3) by decide +kernel) (by decide) ?_
      refine e_L (L' := [some (aR 2), some (aI v1), some (aI v1), none, none, none]) (st' := []) (show decode (mC 95) 37 = .ok (.istore_n 2, 1) by decide +kernel) rfl rfl ?_
      refine e_L (L' := [some (aR 2), some (aI v1), some (aI v1), none, none, none]) (st' := [aR 2]) (show decode (mC 95) 38 = .ok (.aload_n 0, 1) by decide +kernel) rfl (by show (if 2 = 0 then none else some (_, _)) = _; rw [if_neg (by decide)]) ?_
      refine e_P (st' := [aI 0, aR 2]) (show decode (mC 95) 39 = .ok (.iconst 0, 1) by decide +kernel) rfl rfl rfl ?_
      refine e_putI (show decode (mC 95) 40 = .ok (.putfield 46, 3) by decide +kernel) (show pl 10 46 = some (0, 10, 7, 0) by decide +kernel) (by decide) (sh_ok hG (by decide +kernel)) ?_
      refine e_P (st' := [aI 0]) (show decode (mC 95) 43 = .ok (.iconst 0, 1) by decide +kernel) rfl rfl rfl ?_
      refine e_L (L' := [some (aR 2), some (aI v1), some (aI v1), some (aI 0), none, none]) (st' := []) (show decode (mC 95) 44 = .ok (.istore_n 3, 1) by decide +kernel) rfl rfl ?_
      refine e_P (st' := [aI 0]) (show decode (mC 95) 45 = .ok (.iconst 0, 1) by decide +kernel) rfl rfl rfl ?_
      refine e_L (L' := [some (aR 2), some (aI v1), some (aI v1), some (aI 0), some (aI 0), none]) (st' := []) (show decode (mC 95) 46 = .ok (.istore 4, 2) by decide +kernel) rfl rfl ?_
      exact T_le hQ (leS (leN (leS (leS (leS (leS leE)))))) (k12 p1 p2)
/-- SoulOffice$Tape.beginReading(I)V, from 48 -/
theorem b95_48 (hG : Shp G) {v2 v3 v4 x1 : Int} (hQ : ∀ o o' h', q_eqo o o' → Q o h' → Q o' h')
    (s0 : -2147483648 ≤ v4 ∧ v4 < 2147483648)
    (m1 : (940 ≤ v4) → TM d 97 [aR 2, aI 0, aI v2, aI 0, aL 0] (G, c) (fun r h' => T (d + 1) 95 153 [some (aR 2), none, none, none, none, none] (r.toList ++ []) h' Q))
    (s2 : (v4 < 940) → -2147483648 ≤ v3 ∧ v3 < 2147483648)
    (s3 : (v4 < 940) → -2147483648 ≤ v2 ∧ v2 < 2147483648)
    (m4 : (v4 < 940) → (v2 ≤ v3) → TM d 97 [aR 2, aI 0, aI v2, aI 0, aL 0] (G, c) (fun r h' => T (d + 1) 95 153 [some (aR 2), none, none, none, none, none] (r.toList ++ []) h' Q))
    (m5 : (v4 < 940) → (v3 < v2) → (940 ≤ v3) → TM d 97 [aR 2, aI 0, aI v2, aI 0, aL 0] (G, c) (fun r h' => T (d + 1) 95 153 [some (aR 2), none, none, none, none, none] (r.toList ++ []) h' Q))
    (s6 : (v4 < 940) → (v3 < v2) → (v3 < 940) → 0 ≤ v3)
    (s7 : (v4 < 940) → (v3 < v2) → (v3 < 940) → v3 < 940)
    (ex1 : c 3 v3 = x1)
    (m9 : (v4 < 940) → (v3 < v2) → (v3 < 940) → TM d 153 [aI x1] (G, c) (fun r h' => T (d + 1) 95 81 [some (aR 2), none, some (aI v2), some (aI v3), some (aI v4), some (aI x1)] (r.toList ++ []) h' Q)) :
    T (d + 1) 95 48 [some (aR 2), none, some (aI v2), some (aI v3), some (aI v4), none] [] (G, c) Q := by
  refine e_L (L' := [some (aR 2), none, some (aI v2), some (aI v3), some (aI v4), none]) (st' := [aI v4]) (show decode (mC 95) 48 = .ok (.iload 4, 2) by decide +kernel) rfl rfl ?_
  refine e_P (st' := [aI 940, aI v4]) (show decode (mC 95) 50 = .ok (.sipush 940, 3) by decide +kernel) rfl rfl rfl ?_
  refine e_ge2 (t := 145) (show decode (mC 95) 53 = .ok (.if_icmp .ge 92, 3) by decide +kernel) (by decide) s0 (by decide) (fun p1 => ?_) (fun p1 => ?_)
  · refine e_L (L' := [some (aR 2), none, some (aI v2), some (aI v3), some (aI v4), none]) (st' := [aR 2]) (show decode (mC 95) 145 = .ok (.aload_n 0, 1) by decide +kernel) rfl (by show (if 2 = 0 then none else some (_, _)) = _; rw [if_neg (by decide)]) ?_
    refine e_P (st' := [aI 0, aR 2]) (show decode (mC 95) 146 = .ok (.iconst 0, 1) by decide +kernel) rfl rfl rfl ?_
    refine e_L (L' := [some (aR 2), none, some (aI v2), some (aI v3), some (aI v4), none]) (st' := [aI v2, aI 0, aR 2]) (show decode (mC 95) 147 = .ok (.iload_n 2, 1) by decide +kernel) rfl rfl ?_
    refine e_P (st' := [aI 0, aI v2, aI 0, aR 2]) (show decode (mC 95) 148 = .ok (.iconst 0, 1) by decide +kernel) rfl rfl rfl ?_
    refine e_P (st' := [aL 0, aI 0, aI v2, aI 0, aR 2]) (show decode (mC 95) 149 = .ok (.lconst 0, 1) by decide +kernel) rfl rfl rfl ?_
    exact e_V (as := [aR 2, aI 0, aI v2, aI 0, aL 0]) (rest := []) (show decode (mC 95) 150 = .ok (.invokevirtual 63, 3) by decide +kernel) (by decide +kernel) (show (decide ((5 : Nat) = mA 97) && decide (97 < q_law)) = true by decide +kernel) rfl (show (0 : Nat) ≤ 8 by decide) (show (6 : Nat) ≤ mL 97 by decide +kernel) rfl (sh_ok hG (by decide +kernel)) (tm_le hQ (leS (leS (leN (leN (leN (leS leE)))))) (m1 p1))
  · refine e_L (L' := [some (aR 2), none, some (aI v2), some (aI v3), some (aI v4), none]) (st' := [aI v3]) (show decode (mC 95) 56 = .ok (.iload_n 3, 1) by decide +kernel) rfl rfl ?_
    refine e_L (L' := [some (aR 2), none, some (aI v2), some (aI v3), some (aI v4), none]) (st' := [aI v2, aI v3]) (show decode (mC 95) 57 = .ok (.iload_n 2, 1) by decide +kernel) rfl rfl ?_
    refine e_ge2 (t := 145) (show decode (mC 95) 58 = .ok (.if_icmp .ge 87, 3) by decide +kernel) (by decide) (s2 p1) (s3 p1) (fun p2 => ?_) (fun p2 => ?_)
    · refine e_L (L' := [some (aR 2), none, some (aI v2), some (aI v3), some (aI v4), none]) (st' := [aR 2]) (show decode (mC 95) 145 = .ok (.aload_n 0, 1) by decide +kernel) rfl (by show (if 2 = 0 then none else some (_, _)) = _; rw [if_neg (by decide)]) ?_
      refine e_P (st' := [aI 0, aR 2]) (show decode (mC 95) 146 = .ok (.iconst 0, 1) by decide +kernel) rfl rfl rfl ?_
      refine e_L (L' := [some (aR 2), none, some (aI v2), some (aI v3), some (aI v4), none]) (st' := [aI v2, aI 0, aR 2]) (show decode (mC 95) 147 = .ok (.iload_n 2, 1) by decide +kernel) rfl rfl ?_
      refine e_P (st' := [aI 0, aI v2, aI 0, aR 2]) (show decode (mC 95) 148 = .ok (.iconst 0, 1) by decide +kernel) rfl rfl rfl ?_
      refine e_P (st' := [aL 0, aI 0, aI v2, aI 0, aR 2]) (show decode (mC 95) 149 = .ok (.lconst 0, 1) by decide +kernel) rfl rfl rfl ?_
      exact e_V (as := [aR 2, aI 0, aI v2, aI 0, aL 0]) (rest := []) (show decode (mC 95) 150 = .ok (.invokevirtual 63, 3) by decide +kernel) (by decide +kernel) (show (decide ((5 : Nat) = mA 97) && decide (97 < q_law)) = true by decide +kernel) rfl (show (0 : Nat) ≤ 8 by decide) (show (6 : Nat) ≤ mL 97 by decide +kernel) rfl (sh_ok hG (by decide +kernel)) (tm_le hQ (leS (leS (leN (leN (leN (leS leE)))))) (m4 p1 p2))
    · refine e_L (L' := [some (aR 2), none, some (aI v2), some (aI v3), some (aI v4), none]) (st' := [aI v3]) (show decode (mC 95) 61 = .ok (.iload_n 3, 1) by decide +kernel) rfl rfl ?_
      refine e_P (st' := [aI 940, aI v3]) (show decode (mC 95) 62 = .ok (.sipush 940, 3) by decide +kernel) rfl rfl rfl ?_
      refine e_ge2 (t := 145) (show decode (mC 95) 65 = .ok (.if_icmp .ge 80, 3) by decide +kernel) (by decide) (s2 p1) (by decide) (fun p3 => ?_) (fun p3 => ?_)
      · refine e_L (L' := [some (aR 2), none, some (aI v2), some (aI v3), some (aI v4), none]) (st' := [aR 2]) (show decode (mC 95) 145 = .ok (.aload_n 0, 1) by decide +kernel) rfl (by show (if 2 = 0 then none else some (_, _)) = _; rw [if_neg (by decide)]) ?_
        refine e_P (st' := [aI 0, aR 2]) (show decode (mC 95) 146 = .ok (.iconst 0, 1) by decide +kernel) rfl rfl rfl ?_
        refine e_L (L' := [some (aR 2), none, some (aI v2), some (aI v3), some (aI v4), none]) (st' := [aI v2, aI 0, aR 2]) (show decode (mC 95) 147 = .ok (.iload_n 2, 1) by decide +kernel) rfl rfl ?_
        refine e_P (st' := [aI 0, aI v2, aI 0, aR 2]) (show decode (mC 95) 148 = .ok (.iconst 0, 1) by decide +kernel) rfl rfl rfl ?_
        refine e_P (st' := [aL 0, aI 0, aI v2, aI 0, aR 2]) (show decode (mC 95) 149 = .ok (.lconst 0, 1) by decide +kernel) rfl rfl rfl ?_
        exact e_V (as := [aR 2, aI 0, aI v2, aI 0, aL 0]) (rest := []) (show decode (mC 95) 150 = .ok (.invokevirtual 63, 3) by decide +kernel) (by decide +kernel) (show (decide ((5 : Nat) = mA 97) && decide (97 < q_law)) = true by decide +kernel) rfl (show (0 : Nat) ≤ 8 by decide) (show (6 : Nat) ≤ mL 97 by decide +kernel) rfl (sh_ok hG (by decide +kernel)) (tm_le hQ (leS (leS (leN (leN (leN (leS leE)))))) (m5 p1 p2 p3))
      · refine e_L (L' := [some (aR 2), none, some (aI v2), some (aI v3), some (aI v4), none]) (st' := [aR 2]) (show decode (mC 95) 68 = .ok (.aload_n 0, 1) by decide +kernel) rfl (by show (if 2 = 0 then none else some (_, _)) = _; rw [if_neg (by decide)]) ?_
        refine e_getR (w := 3) (show decode (mC 95) 69 = .ok (.getfield 9, 3) by decide +kernel) (show pl 10 9 = some (0, 10, 0, 0) by decide +kernel) (by decide) (sh_ok hG (by decide +kernel)) (sh_rf hG (by decide +kernel)) ?_
        refine e_L (L' := [some (aR 2), none, some (aI v2), some (aI v3), some (aI v4), none]) (st' := [aI v3, aR 3]) (show decode (mC 95) 72 = .ok (.iload_n 3, 1) by decide +kernel) rfl rfl ?_
        refine e_ialdx (n := 940) (show decode (mC 95) 73 = .ok (.iaload, 1) by decide +kernel) (sh_ok hG (by decide +kernel)) (sh_ln hG (by decide +kernel)) (by decide) (s6 p1 p2 p3) (s7 p1 p2 p3) ex1 ?_
        refine e_L (L' := [some (aR 2), none, some (aI v2), some (aI v3), some (aI v4), some (aI x1)]) (st' := []) (show decode (mC 95) 74 = .ok (.istore 5, 2) by decide +kernel) rfl rfl ?_
        refine e_L (L' := [some (aR 2), none, some (aI v2), some (aI v3), some (aI v4), some (aI x1)]) (st' := [aI x1]) (show decode (mC 95) 76 = .ok (.iload 5, 2) by decide +kernel) rfl rfl ?_
        exact e_S (as := [aI x1]) (rest := []) (show decode (mC 95) 78 = .ok (.invokestatic 49, 3) by decide +kernel) (by decide +kernel) (show (decide ((1 : Nat) = mA 153) && decide (153 < q_law)) = true by decide +kernel) rfl (show (0 : Nat) ≤ 8 by decide) (show (1 : Nat) ≤ mL 153 by decide +kernel) (m9 p1 p2 p3)
/-- SoulOffice$Tape.beginReading(I)V, from 81 -/
theorem b95_81 (hG : Shp G) {v2 v3 v4 v5 u0 : Int} (hQ : ∀ o o' h', q_eqo o o' → Q o h' → Q o' h')
    (s0 : -2147483648 ≤ u0 ∧ u0 < 2147483648)
    (m1 : (¬ u0 = 0) → TM d 96 [aR 2, aI v3] (G, c) (fun r h' => T (d + 1) 95 97 [some (aR 2), none, some (aI v2), none, some (aI v4), none] (r.toList ++ []) h' Q))
    (m2 : (u0 = 0) → TM d 154 [aI v5] (G, c) (fun r h' => T (d + 1) 95 89 [some (aR 2), none, some (aI v2), some (aI v3), some (aI v4), some (aI v5)] (r.toList ++ []) h' Q)) :
    T (d + 1) 95 81 [some (aR 2), none, some (aI v2), some (aI v3), some (aI v4), some (aI v5)] [aI u0] (G, c) Q := by
  refine e_ne1 (t := 92) (show decode (mC 95) 81 = .ok (.ifCond .ne 11, 3) by decide +kernel) (by decide) s0 (fun p1 => ?_) (fun p1 => ?_)
  · refine e_L (L' := [some (aR 2), none, some (aI v2), some (aI v3), some (aI v4), some (aI v5)]) (st' := [aR 2]) (show decode (mC 95) 92 = .ok (.aload_n 0, 1) by decide +kernel) rfl (by show (if 2 = 0 then none else some (_, _)) = _; rw [if_neg (by decide)]) ?_
    refine e_L (L' := [some (aR 2), none, some (aI v2), some (aI v3), some (aI v4), some (aI v5)]) (st' := [aI v3, aR 2]) (show decode (mC 95) 93 = .ok (.iload_n 3, 1) by decide +kernel) rfl rfl ?_
    exact e_V (as := [aR 2, aI v3]) (rest := []) (show decode (mC 95) 94 = .ok (.invokevirtual 56, 3) by decide +kernel) (by decide +kernel) (show (decide ((2 : Nat) = mA 96) && decide (96 < q_law)) = true by decide +kernel) rfl (show (0 : Nat) ≤ 8 by decide) (show (2 : Nat) ≤ mL 96 by decide +kernel) rfl (sh_ok hG (by decide +kernel)) (tm_le hQ (leS (leS (leS (leN (leS (leN leE)))))) (m1 p1))
  · refine e_L (L' := [some (aR 2), none, some (aI v2), some (aI v3), some (aI v4), some (aI v5)]) (st' := [aI v5]) (show decode (mC 95) 84 = .ok (.iload 5, 2) by decide +kernel) rfl rfl ?_
    exact e_S (as := [aI v5]) (rest := []) (show decode (mC 95) 86 = .ok (.invokestatic 53, 3) by decide +kernel) (by decide +kernel) (show (decide ((1 : Nat) = mA 154) && decide (154 < q_law)) = true by decide +kernel) rfl (show (0 : Nat) ≤ 8 by decide) (show (1 : Nat) ≤ mL 154 by decide +kernel) (m2 p1)
/-- SoulOffice$Tape.beginReading(I)V, from 89 -/
theorem b95_89 (hG : Shp G) {v2 v3 v4 v5 u0 : Int} (hQ : ∀ o o' h', q_eqo o o' → Q o h' → Q o' h')
    (s0 : -2147483648 ≤ u0 ∧ u0 < 2147483648)
    (s1 : (u0 = 0) → -2147483648 ≤ v5 ∧ v5 < 2147483648)
    (k2 : (u0 = 0) → (v5 = 32) → T (d + 1) 95 136 [some (aR 2), none, some (aI v2), some (aI v3), some (aI v4), none] [] (G, c) Q)
    (k3 : (u0 = 0) → (¬ v5 = 32) → (v5 = 10) → T (d + 1) 95 136 [some (aR 2), none, some (aI v2), some (aI v3), some (aI v4), none] [] (G, c) Q)
    (m4 : (u0 = 0) → (¬ v5 = 32) → (¬ v5 = 10) → TM d 155 [aI v5] (G, c) (fun r h' => T (d + 1) 95 121 [some (aR 2), none, some (aI v2), some (aI v3), some (aI v4), some (aI v5)] (r.toList ++ [aR 2]) h' Q))
    (m5 : (¬ u0 = 0) → TM d 96 [aR 2, aI v3] (G, c) (fun r h' => T (d + 1) 95 97 [some (aR 2), none, some (aI v2), none, some (aI v4), none] (r.toList ++ []) h' Q)) :
    T (d + 1) 95 89 [some (aR 2), none, some (aI v2), some (aI v3), some (aI v4), some (aI v5)] [aI u0] (G, c) Q := by
  refine e_eq1 (t := 101) (show decode (mC 95) 89 = .ok (.ifCond .eq 12, 3) by decide +kernel) (by decide) s0 (fun p1 => ?_) (fun p1 => ?_)
  · refine e_L (L' := [some (aR 2), none, some (aI v2), some (aI v3), some (aI v4), some (aI v5)]) (st' := [aI v5]) (show decode (mC 95) 101 = .ok (.iload 5, 2) by decide +kernel) rfl rfl ?_
    refine e_P (st' := [aI 32, aI v5]) (show decode (mC 95) 103 = .ok (.bipush 32, 2) by decide +kernel) rfl rfl rfl ?_
    refine e_eq2 (t := 136) (show decode (mC 95) 105 = .ok (.if_icmp .eq 31, 3) by decide +kernel) (by decide) (s1 p1) (by decide) (fun p2 => ?_) (fun p2 => ?_)
    · exact T_le hQ (leS (leS (leS (leS (leS (leN leE)))))) (k2 p1 p2)
    · refine e_L (L' := [some (aR 2), none, some (aI v2), some (aI v3), some (aI v4), some (aI v5)]) (st' := [aI v5]) (show decode (mC 95) 108 = .ok (.iload 5, 2) by decide +kernel) rfl rfl ?_
      refine e_P (st' := [aI 10, aI v5]) (show decode (mC 95) 110 = .ok (.bipush 10, 2) by decide +kernel) rfl rfl rfl ?_
      refine e_eq2 (t := 136) (show decode (mC 95) 112 = .ok (.if_icmp .eq 24, 3) by decide +kernel) (by decide) (s1 p1) (by decide) (fun p3 => ?_) (fun p3 => ?_)
      · exact T_le hQ (leS (leS (leS (leS (leS (leN leE)))))) (k3 p1 p2 p3)
      · refine e_L (L' := [some (aR 2), none, some (aI v2), some (aI v3), some (aI v4), some (aI v5)]) (st' := [aR 2]) (show decode (mC 95) 115 = .ok (.aload_n 0, 1) by decide +kernel) rfl (by show (if 2 = 0 then none else some (_, _)) = _; rw [if_neg (by decide)]) ?_
        refine e_L (L' := [some (aR 2), none, some (aI v2), some (aI v3), some (aI v4), some (aI v5)]) (st' := [aI v5, aR 2]) (show decode (mC 95) 116 = .ok (.iload 5, 2) by decide +kernel) rfl rfl ?_
        exact e_S (as := [aI v5]) (rest := [aR 2]) (show decode (mC 95) 118 = .ok (.invokestatic 60, 3) by decide +kernel) (by decide +kernel) (show (decide ((1 : Nat) = mA 155) && decide (155 < q_law)) = true by decide +kernel) rfl (show (1 : Nat) ≤ 8 by decide) (show (1 : Nat) ≤ mL 155 by decide +kernel) (m4 p1 p2 p3)
  · refine e_L (L' := [some (aR 2), none, some (aI v2), some (aI v3), some (aI v4), some (aI v5)]) (st' := [aR 2]) (show decode (mC 95) 92 = .ok (.aload_n 0, 1) by decide +kernel) rfl (by show (if 2 = 0 then none else some (_, _)) = _; rw [if_neg (by decide)]) ?_
    refine e_L (L' := [some (aR 2), none, some (aI v2), some (aI v3), some (aI v4), some (aI v5)]) (st' := [aI v3, aR 2]) (show decode (mC 95) 93 = .ok (.iload_n 3, 1) by decide +kernel) rfl rfl ?_
    exact e_V (as := [aR 2, aI v3]) (rest := []) (show decode (mC 95) 94 = .ok (.invokevirtual 56, 3) by decide +kernel) (by decide +kernel) (show (decide ((2 : Nat) = mA 96) && decide (96 < q_law)) = true by decide +kernel) rfl (show (0 : Nat) ≤ 8 by decide) (show (2 : Nat) ≤ mL 96 by decide +kernel) rfl (sh_ok hG (by decide +kernel)) (tm_le hQ (leS (leS (leS (leN (leS (leN leE)))))) (m5 p1))
/-- SoulOffice$Tape.beginReading(I)V, from 97 -/
theorem b95_97 (hG : Shp G) {v2 v4 u0 : Int}
    (k0 : T (d + 1) 95 48 [some (aR 2), none, some (aI v2), some (aI u0), some (aI (v4 + 1)), none] [] (G, c) Q) :
    T (d + 1) 95 97 [some (aR 2), none, some (aI v2), none, some (aI v4), none] [aI u0] (G, c) Q := by
  refine e_L (L' := [some (aR 2), none, some (aI v2), some (aI u0), some (aI v4), none]) (st' := []) (show decode (mC 95) 97 = .ok (.istore_n 3, 1) by decide +kernel) rfl rfl ?_
  refine e_go (t := 139) (show decode (mC 95) 98 = .ok (.goto 41, 3) by decide +kernel) (by decide) ?_
  refine e_L (L' := [some (aR 2), none, some (aI v2), some (aI u0), some (aI (v4 + 1)), none]) (st' := []) (show decode (mC 95) 139 = .ok (.iinc 4 1, 3) by decide +kernel) rfl rfl ?_
  refine e_go (t := 48) (show decode (mC 95) 142 = .ok (.goto (-94), 3) by decide +kernel) (by decide) ?_
  exact k0
/-- SoulOffice$Tape.beginReading(I)V, from 121 -/
theorem b95_121 (hG : Shp G) {v2 v3 v4 v5 u1 : Int} (hQ : ∀ o o' h', q_eqo o o' → Q o h' → Q o' h')
    (s0 : -2147483648 ≤ u1 ∧ u1 < 2147483648)
    (m1 : (u1 = 0) → TM d 97 [aR 2, aI 5, aI v3, aI v5, aL 0] (G, c) (fun r h' => T (d + 1) 95 136 [some (aR 2), none, some (aI v2), some (aI v3), some (aI v4), none] (r.toList ++ []) h' Q))
    (m2 : (¬ u1 = 0) → TM d 97 [aR 2, aI 4, aI v3, aI v5, aL 0] (G, c) (fun r h' => T (d + 1) 95 136 [some (aR 2), none, some (aI v2), some (aI v3), some (aI v4), none] (r.toList ++ []) h' Q)) :
    T (d + 1) 95 121 [some (aR 2), none, some (aI v2), some (aI v3), some (aI v4), some (aI v5)] [aI u1, aR 2] (G, c) Q := by
  refine e_eq1 (t := 128) (show decode (mC 95) 121 = .ok (.ifCond .eq 7, 3) by decide +kernel) (by decide) s0 (fun p1 => ?_) (fun p1 => ?_)
  · refine e_P (st' := [aI 5, aR 2]) (show decode (mC 95) 128 = .ok (.iconst 5, 1) by decide +kernel) rfl rfl rfl ?_
    refine e_L (L' := [some (aR 2), none, some (aI v2), some (aI v3), some (aI v4), some (aI v5)]) (st' := [aI v3, aI 5, aR 2]) (show decode (mC 95) 129 = .ok (.iload_n 3, 1) by decide +kernel) rfl rfl ?_
    refine e_L (L' := [some (aR 2), none, some (aI v2), some (aI v3), some (aI v4), some (aI v5)]) (st' := [aI v5, aI v3, aI 5, aR 2]) (show decode (mC 95) 130 = .ok (.iload 5, 2) by decide +kernel) rfl rfl ?_
    refine e_P (st' := [aL 0, aI v5, aI v3, aI 5, aR 2]) (show decode (mC 95) 132 = .ok (.lconst 0, 1) by decide +kernel) rfl rfl rfl ?_
    exact e_V (as := [aR 2, aI 5, aI v3, aI v5, aL 0]) (rest := []) (show decode (mC 95) 133 = .ok (.invokevirtual 63, 3) by decide +kernel) (by decide +kernel) (show (decide ((5 : Nat) = mA 97) && decide (97 < q_law)) = true by decide +kernel) rfl (show (0 : Nat) ≤ 8 by decide) (show (6 : Nat) ≤ mL 97 by decide +kernel) rfl (sh_ok hG (by decide +kernel)) (tm_le hQ (leS (leS (leS (leS (leS (leN leE)))))) (m1 p1))
  · refine e_P (st' := [aI 4, aR 2]) (show decode (mC 95) 124 = .ok (.iconst 4, 1) by decide +kernel) rfl rfl rfl ?_
    refine e_go (t := 129) (show decode (mC 95) 125 = .ok (.goto 4, 3) by decide +kernel) (by decide) ?_
    refine e_L (L' := [some (aR 2), none, some (aI v2), some (aI v3), some (aI v4), some (aI v5)]) (st' := [aI v3, aI 4, aR 2]) (show decode (mC 95) 129 = .ok (.iload_n 3, 1) by decide +kernel) rfl rfl ?_
    refine e_L (L' := [some (aR 2), none, some (aI v2), some (aI v3), some (aI v4), some (aI v5)]) (st' := [aI v5, aI v3, aI 4, aR 2]) (show decode (mC 95) 130 = .ok (.iload 5, 2) by decide +kernel) rfl rfl ?_
    refine e_P (st' := [aL 0, aI v5, aI v3, aI 4, aR 2]) (show decode (mC 95) 132 = .ok (.lconst 0, 1) by decide +kernel) rfl rfl rfl ?_
    exact e_V (as := [aR 2, aI 4, aI v3, aI v5, aL 0]) (rest := []) (show decode (mC 95) 133 = .ok (.invokevirtual 63, 3) by decide +kernel) (by decide +kernel) (show (decide ((5 : Nat) = mA 97) && decide (97 < q_law)) = true by decide +kernel) rfl (show (0 : Nat) ≤ 8 by decide) (show (6 : Nat) ≤ mL 97 by decide +kernel) rfl (sh_ok hG (by decide +kernel)) (tm_le hQ (leS (leS (leS (leS (leS (leN leE)))))) (m2 p1))
/-- SoulOffice$Tape.beginReading(I)V, from 136 -/
theorem b95_136 (hG : Shp G) {v2 v3 v4 : Int}
    (k0 : T (d + 1) 95 48 [some (aR 2), none, some (aI v2), some (aI (v3 + 1)), some (aI (v4 + 1)), none] [] (G, c) Q) :
    T (d + 1) 95 136 [some (aR 2), none, some (aI v2), some (aI v3), some (aI v4), none] [] (G, c) Q := by
  refine e_L (L' := [some (aR 2), none, some (aI v2), some (aI (v3 + 1)), some (aI v4), none]) (st' := []) (show decode (mC 95) 136 = .ok (.iinc 3 1, 3) by decide +kernel) rfl rfl ?_
  refine e_L (L' := [some (aR 2), none, some (aI v2), some (aI (v3 + 1)), some (aI (v4 + 1)), none]) (st' := []) (show decode (mC 95) 139 = .ok (.iinc 4 1, 3) by decide +kernel) rfl rfl ?_
  refine e_go (t := 48) (show decode (mC 95) 142 = .ok (.goto (-94), 3) by decide +kernel) (by decide) ?_
  exact k0
/-- SoulOffice$Tape.beginReading(I)V, from 153 -/
theorem b95_153 (hG : Shp G) (hQ : ∀ o o' h', q_eqo o o' → Q o h' → Q o' h')
    (m0 : TM d 98 [aR 2] (G, (q_up c 2 8 0)) (fun r h' => T (d + 1) 95 162 [none, none, none, none, none, none] (r.toList ++ []) h' Q)) :
    T (d + 1) 95 153 [some (aR 2), none, none, none, none, none] [] (G, c) Q := by
  refine e_L (L' := [some (aR 2), none, none, none, none, none]) (st' := [aR 2]) (show decode (mC 95) 153 = .ok (.aload_n 0, 1) by decide +kernel) rfl (by show (if 2 = 0 then none else some (_, _)) = _; rw [if_neg (by decide)]) ?_
  refine e_P (st' := [aI 0, aR 2]) (show decode (mC 95) 154 = .ok (.iconst 0, 1) by decide +kernel) rfl rfl rfl ?_
  refine e_putI (show decode (mC 95) 155 = .ok (.putfield 67, 3) by decide +kernel) (show pl 10 67 = some (0, 10, 8, 0) by decide +kernel) (by decide) (sh_ok hG (by decide +kernel)) ?_
  refine e_L (L' := [some (aR 2), none, none, none, none, none]) (st' := [aR 2]) (show decode (mC 95) 158 = .ok (.aload_n 0, 1) by decide +kernel) rfl (by show (if 2 = 0 then none else some (_, _)) = _; rw [if_neg (by decide)]) ?_
  exact e_V (as := [aR 2]) (rest := []) (show decode (mC 95) 159 = .ok (.invokevirtual 70, 3) by decide +kernel) (by decide +kernel) (show (decide ((1 : Nat) = mA 98) && decide (98 < q_law)) = true by decide +kernel) rfl (show (0 : Nat) ≤ 8 by decide) (show (1 : Nat) ≤ mL 98 by decide +kernel) rfl (sh_ok hG (by decide +kernel)) (tm_le hQ (leN (leS (leS (leS (leS (leS leE)))))) m0)
/-- SoulOffice$Tape.beginReading(I)V, from 162 -/
theorem b95_162 (hG : Shp G)
    (z0 : Q (.inl none) (G, c)) :
    T (d + 1) 95 162 [none, none, none, none, none, none] [] (G, c) Q := by
  exact e_vret (show decode (mC 95) 162 = .ok (.return_, 1) by decide +kernel) rfl z0
/-- SoulOffice$Tape.addRun(I)I, from 0 -/
theorem b96_0 (hG : Shp G) {v1 : Int}
    (k0 : T (d + 1) 96 13 [some (aR 2), some (aI v1), some (aI 0), some (aI 0), some (aI 0), some (aL 0), none, some (aI v1), none] [] (G, c) Q) :
    T (d + 1) 96 0 [some (aR 2), some (aI v1), none, none, none, none, none, none, none] [] (G, c) Q := by
  refine e_P (st' := [aI 0]) (show decode (mC 96) 0 = .ok (.iconst 0, 1) by decide +kernel) rfl rfl rfl ?_
  refine e_L (L' := [some (aR 2), some (aI v1), some (aI 0), none, none, none, none, none, none]) (st' := []) (show decode (mC 96) 1 = .ok (.istore_n 2, 1) by decide +kernel) rfl rfl ?_
  refine e_P (st' := [aI 0]) (show decode (mC 96) 2 = .ok (.iconst 0, 1) by decide +kernel) rfl rfl rfl ?_
  refine e_L (L' := [some (aR 2), some (aI v1), some (aI 0), some (aI 0), none, none, none, none, none]) (st' := []) (show decode (mC 96) 3 = .ok (.istore_n 3, 1) by decide +kernel) rfl rfl ?_
  refine e_P (st' := [aI 0]) (show decode (mC 96) 4 = .ok (.iconst 0, 1) by decide +kernel) rfl rfl rfl ?_
  refine e_L (L' := [some (aR 2), some (aI v1), some (aI 0), some (aI 0), some (aI 0), none, none, none, none]) (st' := []) (show decode (mC 96) 5 = .ok (.istore 4, 2) by decide +kernel) rfl rfl ?_
  refine e_P (st' := [aL 0]) (show decode (mC 96) 7 = .ok (.lconst 0, 1) by decide +kernel) rfl rfl rfl ?_
  refine e_L (L' := [some (aR 2), some (aI v1), some (aI 0), some (aI 0), some (aI 0), some (aL 0), none, none, none]) (st' := []) (show decode (mC 96) 8 = .ok (.lstore 5, 2) by decide +kernel) rfl rfl ?_
  refine e_L (L' := [some (aR 2), some (aI v1), some (aI 0), some (aI 0), some (aI 0), some (aL 0), none, none, none]) (st' := [aI v1]) (show decode (mC 96) 10 = .ok (.iload_n 1, 1) by decide +kernel) rfl rfl ?_
  refine e_L (L' := [some (aR 2), some (aI v1), some (aI 0), some (aI 0), some (aI 0), some (aL 0), none, some (aI v1), none]) (st' := []) (show decode (mC 96) 11 = .ok (.istore 7, 2) by decide +kernel) rfl rfl ?_
  exact k0
/-- SoulOffice$Tape.addRun(I)I, from 13 -/
theorem b96_13 (hG : Shp G) {v1 v2 v3 v4 v5 v7 x1 x2 : Int} (hQ : ∀ o o' h', q_eqo o o' → Q o h' → Q o' h')
    (ex1 : c 2 1 = x1)
    (s1 : -2147483648 ≤ v7 ∧ v7 < 2147483648)
    (s2 : -2147483648 ≤ x1 ∧ x1 < 2147483648)
    (s3 : (x1 ≤ v7) → -2147483648 ≤ v2 ∧ v2 < 2147483648)
    (s4 : (x1 ≤ v7) → (¬ v2 = 0) → -2147483648 ≤ v3 ∧ v3 < 2147483648)
    (m5 : (x1 ≤ v7) → (¬ v2 = 0) → (¬ v3 = 0) → TM d 97 [aR 2, aI 5, aI v1, aI 0, aL 0] (G, c) (fun r h' => T (d + 1) 96 167 [none, none, none, none, none, none, none, some (aI v7), none] (r.toList ++ []) h' Q))
    (m6 : (x1 ≤ v7) → (¬ v2 = 0) → (v3 = 0) → (7 < v2) → TM d 97 [aR 2, aI 5, aI v1, aI 0, aL 0] (G, c) (fun r h' => T (d + 1) 96 167 [none, none, none, none, none, none, none, some (aI v7), none] (r.toList ++ []) h' Q))
    (m7 : (x1 ≤ v7) → (¬ v2 = 0) → (v3 = 0) → (v2 ≤ 7) → TM d 108 [aL v5, aR 4, aI 20] (G, c) (fun r h' => T (d + 1) 96 134 [some (aR 2), some (aI v1), none, none, none, some (aL v5), none, some (aI v7), none] (r.toList ++ []) h' Q))
    (s8 : (x1 ≤ v7) → (v2 = 0) → -2147483648 ≤ v3 ∧ v3 < 2147483648)
    (m9 : (x1 ≤ v7) → (v2 = 0) → (3 < v3) → (¬ v3 = 0) → TM d 97 [aR 2, aI 5, aI v1, aI 0, aL 0] (G, c) (fun r h' => T (d + 1) 96 167 [none, none, none, none, none, none, none, some (aI v7), none] (r.toList ++ []) h' Q))
    (m10 : (x1 ≤ v7) → (v2 = 0) → (3 < v3) → (v3 = 0) → (7 < v2) → TM d 97 [aR 2, aI 5, aI v1, aI 0, aL 0] (G, c) (fun r h' => T (d + 1) 96 167 [none, none, none, none, none, none, none, some (aI v7), none] (r.toList ++ []) h' Q))
    (m11 : (x1 ≤ v7) → (v2 = 0) → (3 < v3) → (v3 = 0) → (v2 ≤ 7) → TM d 108 [aL v5, aR 4, aI 20] (G, c) (fun r h' => T (d + 1) 96 134 [some (aR 2), some (aI v1), none, none, none, some (aL v5), none, some (aI v7), none] (r.toList ++ []) h' Q))
    (m12 : (x1 ≤ v7) → (v2 = 0) → (v3 ≤ 3) → TM d 97 [aR 2, aI 3, aI v1, aI v4, aL 0] (G, c) (fun r h' => T (d + 1) 96 110 [none, none, none, none, none, none, none, some (aI v7), none] (r.toList ++ []) h' Q))
    (s13 : (v7 < x1) → (940 ≤ v7) → -2147483648 ≤ v2 ∧ v2 < 2147483648)
    (s14 : (v7 < x1) → (940 ≤ v7) → (¬ v2 = 0) → -2147483648 ≤ v3 ∧ v3 < 2147483648)
    (m15 : (v7 < x1) → (940 ≤ v7) → (¬ v2 = 0) → (¬ v3 = 0) → TM d 97 [aR 2, aI 5, aI v1, aI 0, aL 0] (G, c) (fun r h' => T (d + 1) 96 167 [none, none, none, none, none, none, none, some (aI v7), none] (r.toList ++ []) h' Q))
    (m16 : (v7 < x1) → (940 ≤ v7) → (¬ v2 = 0) → (v3 = 0) → (7 < v2) → TM d 97 [aR 2, aI 5, aI v1, aI 0, aL 0] (G, c) (fun r h' => T (d + 1) 96 167 [none, none, none, none, none, none, none, some (aI v7), none] (r.toList ++ []) h' Q))
    (m17 : (v7 < x1) → (940 ≤ v7) → (¬ v2 = 0) → (v3 = 0) → (v2 ≤ 7) → TM d 108 [aL v5, aR 4, aI 20] (G, c) (fun r h' => T (d + 1) 96 134 [some (aR 2), some (aI v1), none, none, none, some (aL v5), none, some (aI v7), none] (r.toList ++ []) h' Q))
    (s18 : (v7 < x1) → (940 ≤ v7) → (v2 = 0) → -2147483648 ≤ v3 ∧ v3 < 2147483648)
    (m19 : (v7 < x1) → (940 ≤ v7) → (v2 = 0) → (3 < v3) → (¬ v3 = 0) → TM d 97 [aR 2, aI 5, aI v1, aI 0, aL 0] (G, c) (fun r h' => T (d + 1) 96 167 [none, none, none, none, none, none, none, some (aI v7), none] (r.toList ++ []) h' Q))
    (m20 : (v7 < x1) → (940 ≤ v7) → (v2 = 0) → (3 < v3) → (v3 = 0) → (7 < v2) → TM d 97 [aR 2, aI 5, aI v1, aI 0, aL 0] (G, c) (fun r h' => T (d + 1) 96 167 [none, none, none, none, none, none, none, some (aI v7), none] (r.toList ++ []) h' Q))
    (m21 : (v7 < x1) → (940 ≤ v7) → (v2 = 0) → (3 < v3) → (v3 = 0) → (v2 ≤ 7) → TM d 108 [aL v5, aR 4, aI 20] (G, c) (fun r h' => T (d + 1) 96 134 [some (aR 2), some (aI v1), none, none, none, some (aL v5), none, some (aI v7), none] (r.toList ++ []) h' Q))
    (m22 : (v7 < x1) → (940 ≤ v7) → (v2 = 0) → (v3 ≤ 3) → TM d 97 [aR 2, aI 3, aI v1, aI v4, aL 0] (G, c) (fun r h' => T (d + 1) 96 110 [none, none, none, none, none, none, none, some (aI v7), none] (r.toList ++ []) h' Q))
    (s23 : (v7 < x1) → (v7 < 940) → 0 ≤ v7)
    (s24 : (v7 < x1) → (v7 < 940) → v7 < 940)
    (ex2 : c 3 v7 = x2)
    (m26 : (v7 < x1) → (v7 < 940) → TM d 153 [aI x2] (G, c) (fun r h' => T (d + 1) 96 44 [some (aR 2), some (aI v1), some (aI v2), some (aI v3), some (aI v4), some (aL v5), none, some (aI v7), some (aI x2)] (r.toList ++ []) h' Q)) :
    T (d + 1) 96 13 [some (aR 2), some (aI v1), some (aI v2), some (aI v3), some (aI v4), some (aL v5), none, some (aI v7), none] [] (G, c) Q := by
  refine e_L (L' := [some (aR 2), some (aI v1), some (aI v2), some (aI v3), some (aI v4), some (aL v5), none, some (aI v7), none]) (st' := [aI v7]) (show decode (mC 96) 13 = .ok (.iload 7, 2) by decide +kernel) rfl rfl ?_
  refine e_L (L' := [some (aR 2), some (aI v1), some (aI v2), some (aI v3), some (aI v4), some (aL v5), none, some (aI v7), none]) (st' := [aR 2, aI v7]) (show decode (mC 96) 15 = .ok (.aload_n 0, 1) by decide +kernel) rfl (by show (if 2 = 0 then none else some (_, _)) = _; rw [if_neg (by decide)]) ?_
  refine e_getIx (show decode (mC 96) 16 = .ok (.getfield 35, 3) by decide +kernel) (show pl 10 35 = some (0, 10, 1, 0) by decide +kernel) (by decide) (sh_ok hG (by decide +kernel)) ex1 ?_
  refine e_ge2 (t := 92) (show decode (mC 96) 19 = .ok (.if_icmp .ge 73, 3) by decide +kernel) (by decide) s1 s2 (fun p1 => ?_) (fun p1 => ?_)
  · refine e_L (L' := [some (aR 2), some (aI v1), some (aI v2), some (aI v3), some (aI v4), some (aL v5), none, some (aI v7), none]) (st' := [aI v2]) (show decode (mC 96) 92 = .ok (.iload_n 2, 1) by decide +kernel) rfl rfl ?_
    refine e_ne1 (t := 113) (show decode (mC 96) 93 = .ok (.ifCond .ne 20, 3) by decide +kernel) (by decide) (s3 p1) (fun p2 => ?_) (fun p2 => ?_)
    · refine e_L (L' := [some (aR 2), some (aI v1), some (aI v2), some (aI v3), some (aI v4), some (aL v5), none, some (aI v7), none]) (st' := [aI v3]) (show decode (mC 96) 113 = .ok (.iload_n 3, 1) by decide +kernel) rfl rfl ?_
      refine e_ne1 (t := 159) (show decode (mC 96) 114 = .ok (.ifCond .ne 45, 3) by decide +kernel) (by decide) (s4 p1 p2) (fun p3 => ?_) (fun p3 => ?_)
      · refine e_L (L' := [some (aR 2), some (aI v1), some (aI v2), some (aI v3), some (aI v4), some (aL v5), none, some (aI v7), none]) (st' := [aR 2]) (show decode (mC 96) 159 = .ok (.aload_n 0, 1) by decide +kernel) rfl (by show (if 2 = 0 then none else some (_, _)) = _; rw [if_neg (by decide)]) ?_
        refine e_P (st' := [aI 5, aR 2]) (show decode (mC 96) 160 = .ok (.iconst 5, 1) by decide +kernel) rfl rfl rfl ?_
        refine e_L (L' := [some (aR 2), some (aI v1), some (aI v2), some (aI v3), some (aI v4), some (aL v5), none, some (aI v7), none]) (st' := [aI v1, aI 5, aR 2]) (show decode (mC 96) 161 = .ok (.iload_n 1, 1) by decide +kernel) rfl rfl ?_
        refine e_P (st' := [aI 0, aI v1, aI 5, aR 2]) (show decode (mC 96) 162 = .ok (.iconst 0, 1) by decide +kernel) rfl rfl rfl ?_
        refine e_P (st' := [aL 0, aI 0, aI v1, aI 5, aR 2]) (show decode (mC 96) 163 = .ok (.lconst 0, 1) by decide +kernel) rfl rfl rfl ?_
        exact e_V (as := [aR 2, aI 5, aI v1, aI 0, aL 0]) (rest := []) (show decode (mC 96) 164 = .ok (.invokevirtual 63, 3) by decide +kernel) (by decide +kernel) (show (decide ((5 : Nat) = mA 97) && decide (97 < q_law)) = true by decide +kernel) rfl (show (0 : Nat) ≤ 8 by decide) (show (6 : Nat) ≤ mL 97 by decide +kernel) rfl (sh_ok hG (by decide +kernel)) (tm_le hQ (leN (leN (leN (leN (leN (leN (leS (leS (leS leE))))))))) (m5 p1 p2 p3))
      · refine e_L (L' := [some (aR 2), some (aI v1), some (aI v2), some (aI v3), some (aI v4), some (aL v5), none, some (aI v7), none]) (st' := [aI v2]) (show decode (mC 96) 117 = .ok (.iload_n 2, 1) by decide +kernel) rfl rfl ?_
        refine e_P (st' := [aI 7, aI v2]) (show decode (mC 96) 118 = .ok (.bipush 7, 2) by decide +kernel) rfl rfl rfl ?_
        refine e_gt2 (t := 159) (show decode (mC 96) 120 = .ok (.if_icmp .gt 39, 3) by decide +kernel) (by decide) (s3 p1) (by decide) (fun p4 => ?_) (fun p4 => ?_)
        · refine e_L (L' := [some (aR 2), some (aI v1), some (aI v2), some (aI v3), some (aI v4), some (aL v5), none, some (aI v7), none]) (st' := [aR 2]) (show decode (mC 96) 159 = .ok (.aload_n 0, 1) by decide +kernel) rfl (by show (if 2 = 0 then none else some (_, _)) = _; rw [if_neg (by decide)]) ?_
          refine e_P (st' := [aI 5, aR 2]) (show decode (mC 96) 160 = .ok (.iconst 5, 1) by decide +kernel) rfl rfl rfl ?_
          refine e_L (L' := [some (aR 2), some (aI v1), some (aI v2), some (aI v3), some (aI v4), some (aL v5), none, some (aI v7), none]) (st' := [aI v1, aI 5, aR 2]) (show decode (mC 96) 161 = .ok (.iload_n 1, 1) by decide +kernel) rfl rfl ?_
          refine e_P (st' := [aI 0, aI v1, aI 5, aR 2]) (show decode (mC 96) 162 = .ok (.iconst 0, 1) by decide +kernel) rfl rfl rfl ?_
          refine e_P (st' := [aL 0, aI 0, aI v1, aI 5, aR 2]) (show decode (mC 96) 163 = .ok (.lconst 0, 1) by decide +kernel) rfl rfl rfl ?_
          exact e_V (as := [aR 2, aI 5, aI v1, aI 0, aL 0]) (rest := []) (show decode (mC 96) 164 = .ok (.invokevirtual 63, 3) by decide +kernel) (by decide +kernel) (show (decide ((5 : Nat) = mA 97) && decide (97 < q_law)) = true by decide +kernel) rfl (show (0 : Nat) ≤ 8 by decide) (show (6 : Nat) ≤ mL 97 by decide +kernel) rfl (sh_ok hG (by decide +kernel)) (tm_le hQ (leN (leN (leN (leN (leN (leN (leS (leS (leS leE))))))))) (m6 p1 p2 p3 p4))
        · refine e_L (L' := [some (aR 2), some (aI v1), some (aI v2), some (aI v3), some (aI v4), some (aL v5), none, some (aI v7), none]) (st' := [aL v5]) (show decode (mC 96) 123 = .ok (.lload 5, 2) by decide +kernel) rfl rfl ?_
          refine e_L (L' := [some (aR 2), some (aI v1), some (aI v2), some (aI v3), some (aI v4), some (aL v5), none, some (aI v7), none]) (st' := [aR 2, aL v5]) (show decode (mC 96) 125 = .ok (.aload_n 0, 1) by decide +kernel) rfl (by show (if 2 = 0 then none else some (_, _)) = _; rw [if_neg (by decide)]) ?_
          refine e_getR (w := 4) (show decode (mC 96) 126 = .ok (.getfield 19, 3) by decide +kernel) (show pl 10 19 = some (0, 10, 2, 0) by decide +kernel) (by decide) (sh_ok hG (by decide +kernel)) (sh_rf hG (by decide +kernel)) ?_
          refine e_P (st' := [aI 20, aR 4, aL v5]) (show decode (mC 96) 129 = .ok (.bipush 20, 2) by decide +kernel) rfl rfl rfl ?_
          exact e_S (as := [aL v5, aR 4, aI 20]) (rest := []) (show decode (mC 96) 131 = .ok (.invokestatic 77, 3) by decide +kernel) (by decide +kernel) (show (decide ((3 : Nat) = mA 108) && decide (108 < q_law)) = true by decide +kernel) rfl (show (0 : Nat) ≤ 8 by decide) (show (4 : Nat) ≤ mL 108 by decide +kernel) (tm_le hQ (leS (leS (leN (leN (leN (leS (leS (leS (leS leE))))))))) (m7 p1 p2 p3 p4))
    · refine e_L (L' := [some (aR 2), some (aI v1), some (aI v2), some (aI v3), some (aI v4), some (aL v5), none, some (aI v7), none]) (st' := [aI v3]) (show decode (mC 96) 96 = .ok (.iload_n 3, 1) by decide +kernel) rfl rfl ?_
      refine e_P (st' := [aI 3, aI v3]) (show decode (mC 96) 97 = .ok (.iconst 3, 1) by decide +kernel) rfl rfl rfl ?_
      refine e_gt2 (t := 113) (show decode (mC 96) 98 = .ok (.if_icmp .gt 15, 3) by decide +kernel) (by decide) (s8 p1 p2) (by decide) (fun p3 => ?_) (fun p3 => ?_)
      · refine e_L (L' := [some (aR 2), some (aI v1), some (aI v2), some (aI v3), some (aI v4), some (aL v5), none, some (aI v7), none]) (st' := [aI v3]) (show decode (mC 96) 113 = .ok (.iload_n 3, 1) by decide +kernel) rfl rfl ?_
        refine e_ne1 (t := 159) (show decode (mC 96) 114 = .ok (.ifCond .ne 45, 3) by decide +kernel) (by decide) (s8 p1 p2) (fun p4 => ?_) (fun p4 => ?_)
        · refine e_L (L' := [some (aR 2), some (aI v1), some (aI v2), some (aI v3), some (aI v4), some (aL v5), none, some (aI v7), none]) (st' := [aR 2]) (show decode (mC 96) 159 = .ok (.aload_n 0, 1) by decide +kernel) rfl (by show (if 2 = 0 then none else some (_, _)) = _; rw [if_neg (by decide)]) ?_
          refine e_P (st' := [aI 5, aR 2]) (show decode (mC 96) 160 = .ok (.iconst 5, 1) by decide +kernel) rfl rfl rfl ?_
          refine e_L (L' := [some (aR 2), some (aI v1), some (aI v2), some (aI v3), some (aI v4), some (aL v5), none, some (aI v7), none]) (st' := [aI v1, aI 5, aR 2]) (show decode (mC 96) 161 = .ok (.iload_n 1, 1) by decide +kernel) rfl rfl ?_
          refine e_P (st' := [aI 0, aI v1, aI 5, aR 2]) (show decode (mC 96) 162 = .ok (.iconst 0, 1) by decide +kernel) rfl rfl rfl ?_
          refine e_P (st' := [aL 0, aI 0, aI v1, aI 5, aR 2]) (show decode (mC 96) 163 = .ok (.lconst 0, 1) by decide +kernel) rfl rfl rfl ?_
          exact e_V (as := [aR 2, aI 5, aI v1, aI 0, aL 0]) (rest := []) (show decode (mC 96) 164 = .ok (.invokevirtual 63, 3) by decide +kernel) (by decide +kernel) (show (decide ((5 : Nat) = mA 97) && decide (97 < q_law)) = true by decide +kernel) rfl (show (0 : Nat) ≤ 8 by decide) (show (6 : Nat) ≤ mL 97 by decide +kernel) rfl (sh_ok hG (by decide +kernel)) (tm_le hQ (leN (leN (leN (leN (leN (leN (leS (leS (leS leE))))))))) (m9 p1 p2 p3 p4))
        · refine e_L (L' := [some (aR 2), some (aI v1), some (aI v2), some (aI v3), some (aI v4), some (aL v5), none, some (aI v7), none]) (st' := [aI v2]) (show decode (mC 96) 117 = .ok (.iload_n 2, 1) by decide +kernel) rfl rfl ?_
          refine e_P (st' := [aI 7, aI v2]) (show decode (mC 96) 118 = .ok (.bipush 7, 2) by decide +kernel) rfl rfl rfl ?_
          refine e_gt2 (t := 159) (show decode (mC 96) 120 = .ok (.if_icmp .gt 39, 3) by decide +kernel) (by decide) (s3 p1) (by decide) (fun p5 => ?_) (fun p5 => ?_)
          · refine e_L (L' := [some (aR 2), some (aI v1), some (aI v2), some (aI v3), some (aI v4), some (aL v5), none, some (aI v7), none]) (st' := [aR 2]) (show decode (mC 96) 159 = .ok (.aload_n 0, 1) by decide +kernel) rfl (by show (if 2 = 0 then none else some (_, _)) = _; rw [if_neg (by decide)]) ?_
            refine e_P (st' := [aI 5, aR 2]) (show decode (mC 96) 160 = .ok (.iconst 5, 1) by decide +kernel) rfl rfl rfl ?_
            refine e_L (L' := [some (aR 2), some (aI v1), some (aI v2), some (aI v3), some (aI v4), some (aL v5), none, some (aI v7), none]) (st' := [aI v1, aI 5, aR 2]) (show decode (mC 96) 161 = .ok (.iload_n 1, 1) by decide +kernel) rfl rfl ?_
            refine e_P (st' := [aI 0, aI v1, aI 5, aR 2]) (show decode (mC 96) 162 = .ok (.iconst 0, 1) by decide +kernel) rfl rfl rfl ?_
            refine e_P (st' := [aL 0, aI 0, aI v1, aI 5, aR 2]) (show decode (mC 96) 163 = .ok (.lconst 0, 1) by decide +kernel) rfl rfl rfl ?_
            exact e_V (as := [aR 2, aI 5, aI v1, aI 0, aL 0]) (rest := []) (show decode (mC 96) 164 = .ok (.invokevirtual 63, 3) by decide +kernel) (by decide +kernel) (show (decide ((5 : Nat) = mA 97) && decide (97 < q_law)) = true by decide +kernel) rfl (show (0 : Nat) ≤ 8 by decide) (show (6 : Nat) ≤ mL 97 by decide +kernel) rfl (sh_ok hG (by decide +kernel)) (tm_le hQ (leN (leN (leN (leN (leN (leN (leS (leS (leS leE))))))))) (m10 p1 p2 p3 p4 p5))
          · refine e_L (L' := [some (aR 2), some (aI v1), some (aI v2), some (aI v3), some (aI v4), some (aL v5), none, some (aI v7), none]) (st' := [aL v5]) (show decode (mC 96) 123 = .ok (.lload 5, 2) by decide +kernel) rfl rfl ?_
            refine e_L (L' := [some (aR 2), some (aI v1), some (aI v2), some (aI v3), some (aI v4), some (aL v5), none, some (aI v7), none]) (st' := [aR 2, aL v5]) (show decode (mC 96) 125 = .ok (.aload_n 0, 1) by decide +kernel) rfl (by show (if 2 = 0 then none else some (_, _)) = _; rw [if_neg (by decide)]) ?_
            refine e_getR (w := 4) (show decode (mC 96) 126 = .ok (.getfield 19, 3) by decide +kernel) (show pl 10 19 = some (0, 10, 2, 0) by decide +kernel) (by decide) (sh_ok hG (by decide +kernel)) (sh_rf hG (by decide +kernel)) ?_
            refine e_P (st' := [aI 20, aR 4, aL v5]) (show decode (mC 96) 129 = .ok (.bipush 20, 2) by decide +kernel) rfl rfl rfl ?_
            exact e_S (as := [aL v5, aR 4, aI 20]) (rest := []) (show decode (mC 96) 131 = .ok (.invokestatic 77, 3) by decide +kernel) (by decide +kernel) (show (decide ((3 : Nat) = mA 108) && decide (108 < q_law)) = true by decide +kernel) rfl (show (0 : Nat) ≤ 8 by decide) (show (4 : Nat) ≤ mL 108 by decide +kernel) (tm_le hQ (leS (leS (leN (leN (leN (leS (leS (leS (leS leE))))))))) (m11 p1 p2 p3 p4 p5))
      · refine e_L (L' := [some (aR 2), some (aI v1), some (aI v2), some (aI v3), some (aI v4), some (aL v5), none, some (aI v7), none]) (st' := [aR 2]) (show decode (mC 96) 101 = .ok (.aload_n 0, 1) by decide +kernel) rfl (by show (if 2 = 0 then none else some (_, _)) = _; rw [if_neg (by decide)]) ?_
        refine e_P (st' := [aI 3, aR 2]) (show decode (mC 96) 102 = .ok (.iconst 3, 1) by decide +kernel) rfl rfl rfl ?_
        refine e_L (L' := [some (aR 2), some (aI v1), some (aI v2), some (aI v3), some (aI v4), some (aL v5), none, some (aI v7), none]) (st' := [aI v1, aI 3, aR 2]) (show decode (mC 96) 103 = .ok (.iload_n 1, 1) by decide +kernel) rfl rfl ?_
        refine e_L (L' := [some (aR 2), some (aI v1), some (aI v2), some (aI v3), some (aI v4), some (aL v5), none, some (aI v7), none]) (st' := [aI v4, aI v1, aI 3, aR 2]) (show decode (mC 96) 104 = .ok (.iload 4, 2) by decide +kernel) rfl rfl ?_
        refine e_P (st' := [aL 0, aI v4, aI v1, aI 3, aR 2]) (show decode (mC 96) 106 = .ok (.lconst 0, 1) by decide +kernel) rfl rfl rfl ?_
        exact e_V (as := [aR 2, aI 3, aI v1, aI v4, aL 0]) (rest := []) (show decode (mC 96) 107 = .ok (.invokevirtual 63, 3) by decide +kernel) (by decide +kernel) (show (decide ((5 : Nat) = mA 97) && decide (97 < q_law)) = true by decide +kernel) rfl (show (0 : Nat) ≤ 8 by decide) (show (6 : Nat) ≤ mL 97 by decide +kernel) rfl (sh_ok hG (by decide +kernel)) (tm_le hQ (leN (leN (leN (leN (leN (leN (leS (leS (leS leE))))))))) (m12 p1 p2 p3))
  · refine e_L (L' := [some (aR 2), some (aI v1), some (aI v2), some (aI v3), some (aI v4), some (aL v5), none, some (aI v7), none]) (st' := [aI v7]) (show decode (mC 96) 22 = .ok (.iload 7, 2) by decide +kernel) rfl rfl ?_
    refine e_P (st' := [aI 940, aI v7]) (show decode (mC 96) 24 = .ok (.sipush 940, 3) by decide +kernel) rfl rfl rfl ?_
    refine e_ge2 (t := 92) (show decode (mC 96) 27 = .ok (.if_icmp .ge 65, 3) by decide +kernel) (by decide) s1 (by decide) (fun p2 => ?_) (fun p2 => ?_)
    · refine e_L (L' := [some (aR 2), some (aI v1), some (aI v2), some (aI v3), some (aI v4), some (aL v5), none, some (aI v7), none]) (st' := [aI v2]) (show decode (mC 96) 92 = .ok (.iload_n 2, 1) by decide +kernel) rfl rfl ?_
      refine e_ne1 (t := 113) (show decode (mC 96) 93 = .ok (.ifCond .ne 20, 3) by decide +kernel) (by decide) (s13 p1 p2) (fun p3 => ?_) (fun p3 => ?_)
      · refine e_L (L' := [some (aR 2), some (aI v1), some (aI v2), some (aI v3), some (aI v4), some (aL v5), none, some (aI v7), none]) (st' := [aI v3]) (show decode (mC 96) 113 = .ok (.iload_n 3, 1) by decide +kernel) rfl rfl ?_
        refine e_ne1 (t := 159) (show decode (mC 96) 114 = .ok (.ifCond .ne 45, 3) by decide +kernel) (by decide) (s14 p1 p2 p3) (fun p4 => ?_) (fun p4 => ?_)
        · refine e_L (L' := [some (aR 2), some (aI v1), some (aI v2), some (aI v3), some (aI v4), some (aL v5), none, some (aI v7), none]) (st' := [aR 2]) (show decode (mC 96) 159 = .ok (.aload_n 0, 1) by decide +kernel) rfl (by show (if 2 = 0 then none else some (_, _)) = _; rw [if_neg (by decide)]) ?_
          refine e_P (st' := [aI 5, aR 2]) (show decode (mC 96) 160 = .ok (.iconst 5, 1) by decide +kernel) rfl rfl rfl ?_
          refine e_L (L' := [some (aR 2), some (aI v1), some (aI v2), some (aI v3), some (aI v4), some (aL v5), none, some (aI v7), none]) (st' := [aI v1, aI 5, aR 2]) (show decode (mC 96) 161 = .ok (.iload_n 1, 1) by decide +kernel) rfl rfl ?_
          refine e_P (st' := [aI 0, aI v1, aI 5, aR 2]) (show decode (mC 96) 162 = .ok (.iconst 0, 1) by decide +kernel) rfl rfl rfl ?_
          refine e_P (st' := [aL 0, aI 0, aI v1, aI 5, aR 2]) (show decode (mC 96) 163 = .ok (.lconst 0, 1) by decide +kernel) rfl rfl rfl ?_
          exact e_V (as := [aR 2, aI 5, aI v1, aI 0, aL 0]) (rest := []) (show decode (mC 96) 164 = .ok (.invokevirtual 63, 3) by decide +kernel) (by decide +kernel) (show (decide ((5 : Nat) = mA 97) && decide (97 < q_law)) = true by decide +kernel) rfl (show (0 : Nat) ≤ 8 by decide) (show (6 : Nat) ≤ mL 97 by decide +kernel) rfl (sh_ok hG (by decide +kernel)) (tm_le hQ (leN (leN (leN (leN (leN (leN (leS (leS (leS leE))))))))) (m15 p1 p2 p3 p4))
        · refine e_L (L' := [some (aR 2), some (aI v1), some (aI v2), some (aI v3), some (aI v4), some (aL v5), none, some (aI v7), none]) (st' := [aI v2]) (show decode (mC 96) 117 = .ok (.iload_n 2, 1) by decide +kernel) rfl rfl ?_
          refine e_P (st' := [aI 7, aI v2]) (show decode (mC 96) 118 = .ok (.bipush 7, 2) by decide +kernel) rfl rfl rfl ?_
          refine e_gt2 (t := 159) (show decode (mC 96) 120 = .ok (.if_icmp .gt 39, 3) by decide +kernel) (by decide) (s13 p1 p2) (by decide) (fun p5 => ?_) (fun p5 => ?_)
          · refine e_L (L' := [some (aR 2), some (aI v1), some (aI v2), some (aI v3), some (aI v4), some (aL v5), none, some (aI v7), none]) (st' := [aR 2]) (show decode (mC 96) 159 = .ok (.aload_n 0, 1) by decide +kernel) rfl (by show (if 2 = 0 then none else some (_, _)) = _; rw [if_neg (by decide)]) ?_
            refine e_P (st' := [aI 5, aR 2]) (show decode (mC 96) 160 = .ok (.iconst 5, 1) by decide +kernel) rfl rfl rfl ?_
            refine e_L (L' := [some (aR 2), some (aI v1), some (aI v2), some (aI v3), some (aI v4), some (aL v5), none, some (aI v7), none]) (st' := [aI v1, aI 5, aR 2]) (show decode (mC 96) 161 = .ok (.iload_n 1, 1) by decide +kernel) rfl rfl ?_
            refine e_P (st' := [aI 0, aI v1, aI 5, aR 2]) (show decode (mC 96) 162 = .ok (.iconst 0, 1) by decide +kernel) rfl rfl rfl ?_
            refine e_P (st' := [aL 0, aI 0, aI v1, aI 5, aR 2]) (show decode (mC 96) 163 = .ok (.lconst 0, 1) by decide +kernel) rfl rfl rfl ?_
            exact e_V (as := [aR 2, aI 5, aI v1, aI 0, aL 0]) (rest := []) (show decode (mC 96) 164 = .ok (.invokevirtual 63, 3) by decide +kernel) (by decide +kernel) (show (decide ((5 : Nat) = mA 97) && decide (97 < q_law)) = true by decide +kernel) rfl (show (0 : Nat) ≤ 8 by decide) (show (6 : Nat) ≤ mL 97 by decide +kernel) rfl (sh_ok hG (by decide +kernel)) (tm_le hQ (leN (leN (leN (leN (leN (leN (leS (leS (leS leE))))))))) (m16 p1 p2 p3 p4 p5))
          · refine e_L (L' := [some (aR 2), some (aI v1), some (aI v2), some (aI v3), some (aI v4), some (aL v5), none, some (aI v7), none]) (st' := [aL v5]) (show decode (mC 96) 123 = .ok (.lload 5, 2) by decide +kernel) rfl rfl ?_
            refine e_L (L' := [some (aR 2), some (aI v1), some (aI v2), some (aI v3), some (aI v4), some (aL v5), none, some (aI v7), none]) (st' := [aR 2, aL v5]) (show decode (mC 96) 125 = .ok (.aload_n 0, 1) by decide +kernel) rfl (by show (if 2 = 0 then none else some (_, _)) = _; rw [if_neg (by decide)]) ?_
            refine e_getR (w := 4) (show decode (mC 96) 126 = .ok (.getfield 19, 3) by decide +kernel) (show pl 10 19 = some (0, 10, 2, 0) by decide +kernel) (by decide) (sh_ok hG (by decide +kernel)) (sh_rf hG (by decide +kernel)) ?_
            refine e_P (st' := [aI 20, aR 4, aL v5]) (show decode (mC 96) 129 = .ok (.bipush 20, 2) by decide +kernel) rfl rfl rfl ?_
            exact e_S (as := [aL v5, aR 4, aI 20]) (rest := []) (show decode (mC 96) 131 = .ok (.invokestatic 77, 3) by decide +kernel) (by decide +kernel) (show (decide ((3 : Nat) = mA 108) && decide (108 < q_law)) = true by decide +kernel) rfl (show (0 : Nat) ≤ 8 by decide) (show (4 : Nat) ≤ mL 108 by decide +kernel) (tm_le hQ (leS (leS (leN (leN (leN (leS (leS (leS (leS leE))))))))) (m17 p1 p2 p3 p4 p5))
      · refine e_L (L' := [some (aR 2), some (aI v1), some (aI v2), some (aI v3), some (aI v4), some (aL v5), none, some (aI v7), none]) (st' := [aI v3]) (show decode (mC 96) 96 = .ok (.iload_n 3, 1) by decide +kernel) rfl rfl ?_
        refine e_P (st' := [aI 3, aI v3]) (show decode (mC 96) 97 = .ok (.iconst 3, 1) by decide +kernel) rfl rfl rfl ?_
        refine e_gt2 (t := 113) (show decode (mC 96) 98 = .ok (.if_icmp .gt 15, 3) by decide +kernel) (by decide) (s18 p1 p2 p3) (by decide) (fun p4 => ?_) (fun p4 => ?_)
        · refine e_L (L' := [some (aR 2), some (aI v1), some (aI v2), some (aI v3), some (aI v4), some (aL v5), none, some (aI v7), none]) (st' := [aI v3]) (show decode (mC 96) 113 = .ok (.iload_n 3, 1) by decide +kernel) rfl rfl ?_
          refine e_ne1 (t := 159) (show decode (mC 96) 114 = .ok (.ifCond .ne 45, 3) by decide +kernel) (by decide) (s18 p1 p2 p3) (fun p5 => ?_) (fun p5 => ?_)
          · refine e_L (L' := [some (aR 2), some (aI v1), some (aI v2), some (aI v3), some (aI v4), some (aL v5), none, some (aI v7), none]) (st' := [aR 2]) (show decode (mC 96) 159 = .ok (.aload_n 0, 1) by decide +kernel) rfl (by show (if 2 = 0 then none else some (_, _)) = _; rw [if_neg (by decide)]) ?_
            refine e_P (st' := [aI 5, aR 2]) (show decode (mC 96) 160 = .ok (.iconst 5, 1) by decide +kernel) rfl rfl rfl ?_
            refine e_L (L' := [some (aR 2), some (aI v1), some (aI v2), some (aI v3), some (aI v4), some (aL v5), none, some (aI v7), none]) (st' := [aI v1, aI 5, aR 2]) (show decode (mC 96) 161 = .ok (.iload_n 1, 1) by decide +kernel) rfl rfl ?_
            refine e_P (st' := [aI 0, aI v1, aI 5, aR 2]) (show decode (mC 96) 162 = .ok (.iconst 0, 1) by decide +kernel) rfl rfl rfl ?_
            refine e_P (st' := [aL 0, aI 0, aI v1, aI 5, aR 2]) (show decode (mC 96) 163 = .ok (.lconst 0, 1) by decide +kernel) rfl rfl rfl ?_
            exact e_V (as := [aR 2, aI 5, aI v1, aI 0, aL 0]) (rest := []) (show decode (mC 96) 164 = .ok (.invokevirtual 63, 3) by decide +kernel) (by decide +kernel) (show (decide ((5 : Nat) = mA 97) && decide (97 < q_law)) = true by decide +kernel) rfl (show (0 : Nat) ≤ 8 by decide) (show (6 : Nat) ≤ mL 97 by decide +kernel) rfl (sh_ok hG (by decide +kernel)) (tm_le hQ (leN (leN (leN (leN (leN (leN (leS (leS (leS leE))))))))) (m19 p1 p2 p3 p4 p5))
          · refine e_L (L' := [some (aR 2), some (aI v1), some (aI v2), some (aI v3), some (aI v4), some (aL v5), none, some (aI v7), none]) (st' := [aI v2]) (show decode (mC 96) 117 = .ok (.iload_n 2, 1) by decide +kernel) rfl rfl ?_
            refine e_P (st' := [aI 7, aI v2]) (show decode (mC 96) 118 = .ok (.bipush 7, 2) by decide +kernel) rfl rfl rfl ?_
            refine e_gt2 (t := 159) (show decode (mC 96) 120 = .ok (.if_icmp .gt 39, 3) by decide +kernel) (by decide) (s13 p1 p2) (by decide) (fun p6 => ?_) (fun p6 => ?_)
            · refine e_L (L' := [some (aR 2), some (aI v1), some (aI v2), some (aI v3), some (aI v4), some (aL v5), none, some (aI v7), none]) (st' := [aR 2]) (show decode (mC 96) 159 = .ok (.aload_n 0, 1) by decide +kernel) rfl (by show (if 2 = 0 then none else some (_, _)) = _; rw [if_neg (by decide)]) ?_
              refine e_P (st' := [aI 5, aR 2]) (show decode (mC 96) 160 = .ok (.iconst 5, 1) by decide +kernel) rfl rfl rfl ?_
              refine e_L (L' := [some (aR 2), some (aI v1), some (aI v2), some (aI v3), some (aI v4), some (aL v5), none, some (aI v7), none]) (st' := [aI v1, aI 5, aR 2]) (show decode (mC 96) 161 = .ok (.iload_n 1, 1) by decide +kernel) rfl rfl ?_
              refine e_P (st' := [aI 0, aI v1, aI 5, aR 2]) (show decode (mC 96) 162 = .ok (.iconst 0, 1) by decide +kernel) rfl rfl rfl ?_
              refine e_P (st' := [aL 0, aI 0, aI v1, aI 5, aR 2]) (show decode (mC 96) 163 = .ok (.lconst 0, 1) by decide +kernel) rfl rfl rfl ?_
              exact e_V (as := [aR 2, aI 5, aI v1, aI 0, aL 0]) (rest := []) (show decode (mC 96) 164 = .ok (.invokevirtual 63, 3) by decide +kernel) (by decide +kernel) (show (decide ((5 : Nat) = mA 97) && decide (97 < q_law)) = true by decide +kernel) rfl (show (0 : Nat) ≤ 8 by decide) (show (6 : Nat) ≤ mL 97 by decide +kernel) rfl (sh_ok hG (by decide +kernel)) (tm_le hQ (leN (leN (leN (leN (leN (leN (leS (leS (leS leE))))))))) (m20 p1 p2 p3 p4 p5 p6))
            · refine e_L (L' := [some (aR 2), some (aI v1), some (aI v2), some (aI v3), some (aI v4), some (aL v5), none, some (aI v7), none]) (st' := [aL v5]) (show decode (mC 96) 123 = .ok (.lload 5, 2) by decide +kernel) rfl rfl ?_
              refine e_L (L' := [some (aR 2), some (aI v1), some (aI v2), some (aI v3), some (aI v4), some (aL v5), none, some (aI v7), none]) (st' := [aR 2, aL v5]) (show decode (mC 96) 125 = .ok (.aload_n 0, 1) by decide +kernel) rfl (by show (if 2 = 0 then none else some (_, _)) = _; rw [if_neg (by decide)]) ?_
              refine e_getR (w := 4) (show decode (mC 96) 126 = .ok (.getfield 19, 3) by decide +kernel) (show pl 10 19 = some (0, 10, 2, 0) by decide +kernel) (by decide) (sh_ok hG (by decide +kernel)) (sh_rf hG (by decide +kernel)) ?_
              refine e_P (st' := [aI 20, aR 4, aL v5]) (show decode (mC 96) 129 = .ok (.bipush 20, 2) by decide +kernel) rfl rfl rfl ?_
              exact e_S (as := [aL v5, aR 4, aI 20]) (rest := []) (show decode (mC 96) 131 = .ok (.invokestatic 77, 3) by decide +kernel) (by decide +kernel) (show (decide ((3 : Nat) = mA 108) && decide (108 < q_law)) = true by decide +kernel) rfl (show (0 : Nat) ≤ 8 by decide) (show (4 : Nat) ≤ mL 108 by decide +kernel) (tm_le hQ (leS (leS (leN (leN (leN (leS (leS (leS (leS leE))))))))) (m21 p1 p2 p3 p4 p5 p6))
        · refine e_L (L' := [some (aR 2), some (aI v1), some (aI v2), some (aI v3), some (aI v4), some (aL v5), none, some (aI v7), none]) (st' := [aR 2]) (show decode (mC 96) 101 = .ok (.aload_n 0, 1) by decide +kernel) rfl (by show (if 2 = 0 then none else some (_, _)) = _; rw [if_neg (by decide)]) ?_
          refine e_P (st' := [aI 3, aR 2]) (show decode (mC 96) 102 = .ok (.iconst 3, 1) by decide +kernel) rfl rfl rfl ?_
          refine e_L (L' := [some (aR 2), some (aI v1), some (aI v2), some (aI v3), some (aI v4), some (aL v5), none, some (aI v7), none]) (st' := [aI v1, aI 3, aR 2]) (show decode (mC 96) 103 = .ok (.iload_n 1, 1) by decide +kernel) rfl rfl ?_
          refine e_L (L' := [some (aR 2), some (aI v1), some (aI v2), some (aI v3), some (aI v4), some (aL v5), none, some (aI v7), none]) (st' := [aI v4, aI v1, aI 3, aR 2]) (show decode (mC 96) 104 = .ok (.iload 4, 2) by decide +kernel) rfl rfl ?_
          refine e_P (st' := [aL 0, aI v4, aI v1, aI 3, aR 2]) (show decode (mC 96) 106 = .ok (.lconst 0, 1) by decide +kernel) rfl rfl rfl ?_
          exact e_V (as := [aR 2, aI 3, aI v1, aI v4, aL 0]) (rest := []) (show decode (mC 96) 107 = .ok (.invokevirtual 63, 3) by decide +kernel) (by decide +kernel) (show (decide ((5 : Nat) = mA 97) && decide (97 < q_law)) = true by decide +kernel) rfl (show (0 : Nat) ≤ 8 by decide) (show (6 : Nat) ≤ mL 97 by decide +kernel) rfl (sh_ok hG (by decide +kernel)) (tm_le hQ (leN (leN (leN (leN (leN (leN (leS (leS (leS leE))))))))) (m22 p1 p2 p3 p4))
    · refine e_L (L' := [some (aR 2), some (aI v1), some (aI v2), some (aI v3), some (aI v4), some (aL v5), none, some (aI v7), none]) (st' := [aR 2]) (show decode (mC 96) 30 = .ok (.aload_n 0, 1) by decide +kernel) rfl (by show (if 2 = 0 then none else some (_, _)) = _; rw [if_neg (by decide)]) ?_
      refine e_getR (w := 3) (show decode (mC 96) 31 = .ok (.getfield 9, 3) by decide +kernel) (show pl 10 9 = some (0, 10, 0, 0) by decide +kernel) (by decide) (sh_ok hG (by decide +kernel)) (sh_rf hG (by decide +kernel)) ?_
      refine e_L (L' := [some (aR 2), some (aI v1), some (aI v2), some (aI v3), some (aI v4), some (aL v5), none, some (aI v7), none]) (st' := [aI v7, aR 3]) (show decode (mC 96) 34 = .ok (.iload 7, 2) by decide +kernel) rfl rfl ?_
      refine e_ialdx (n := 940) (show decode (mC 96) 36 = .ok (.iaload, 1) by decide +kernel) (sh_ok hG (by decide +kernel)) (sh_ln hG (by decide +kernel)) (by decide) (s23 p1 p2) (s24 p1 p2) ex2 ?_
      refine e_L (L' := [some (aR 2), some (aI v1), some (aI v2), some (aI v3), some (aI v4), some (aL v5), none, some (aI v7), some (aI x2)]) (st' := []) (show decode (mC 96) 37 = .ok (.istore 8, 2) by decide +kernel) rfl rfl ?_
      refine e_L (L' := [some (aR 2), some (aI v1), some (aI v2), some (aI v3), some (aI v4), some (aL v5), none, some (aI v7), some (aI x2)]) (st' := [aI x2]) (show decode (mC 96) 39 = .ok (.iload 8, 2) by decide +kernel) rfl rfl ?_
      exact e_S (as := [aI x2]) (rest := []) (show decode (mC 96) 41 = .ok (.invokestatic 49, 3) by decide +kernel) (by decide +kernel) (show (decide ((1 : Nat) = mA 153) && decide (153 < q_law)) = true by decide +kernel) rfl (show (0 : Nat) ≤ 8 by decide) (show (1 : Nat) ≤ mL 153 by decide +kernel) (m26 p1 p2)
/-- SoulOffice$Tape.addRun(I)I, from 44 -/
theorem b96_44 (hG : Shp G) {v1 v2 v3 v4 v5 v7 v8 u0 : Int} (hQ : ∀ o o' h', q_eqo o o' → Q o h' → Q o' h')
    (s0 : -2147483648 ≤ u0 ∧ u0 < 2147483648)
    (m1 : (u0 = 0) → TM d 154 [aI v8] (G, c) (fun r h' => T (d + 1) 96 67 [some (aR 2), some (aI v1), some (aI v2), some (aI v3), some (aI v4), some (aL v5), none, some (aI v7), some (aI v8)] (r.toList ++ []) h' Q))
    (m2 : (¬ u0 = 0) → TM d 156 [aL v5, aI v8] (G, c) (fun r h' => T (d + 1) 96 57 [some (aR 2), some (aI v1), some (aI (v2 + 1)), some (aI v3), some (aI v4), none, none, some (aI v7), none] (r.toList ++ []) h' Q)) :
    T (d + 1) 96 44 [some (aR 2), some (aI v1), some (aI v2), some (aI v3), some (aI v4), some (aL v5), none, some (aI v7), some (aI v8)] [aI u0] (G, c) Q := by
  refine e_eq1 (t := 62) (show decode (mC 96) 44 = .ok (.ifCond .eq 18, 3) by decide +kernel) (by decide) s0 (fun p1 => ?_) (fun p1 => ?_)
  · refine e_L (L' := [some (aR 2), some (aI v1), some (aI v2), some (aI v3), some (aI v4), some (aL v5), none, some (aI v7), some (aI v8)]) (st' := [aI v8]) (show decode (mC 96) 62 = .ok (.iload 8, 2) by decide +kernel) rfl rfl ?_
    exact e_S (as := [aI v8]) (rest := []) (show decode (mC 96) 64 = .ok (.invokestatic 53, 3) by decide +kernel) (by decide +kernel) (show (decide ((1 : Nat) = mA 154) && decide (154 < q_law)) = true by decide +kernel) rfl (show (0 : Nat) ≤ 8 by decide) (show (1 : Nat) ≤ mL 154 by decide +kernel) (m1 p1)
  · refine e_L (L' := [some (aR 2), some (aI v1), some (aI (v2 + 1)), some (aI v3), some (aI v4), some (aL v5), none, some (aI v7), some (aI v8)]) (st' := []) (show decode (mC 96) 47 = .ok (.iinc 2 1, 3) by decide +kernel) rfl rfl ?_
    refine e_L (L' := [some (aR 2), some (aI v1), some (aI (v2 + 1)), some (aI v3), some (aI v4), some (aL v5), none, some (aI v7), some (aI v8)]) (st' := [aL v5]) (show decode (mC 96) 50 = .ok (.lload 5, 2) by decide +kernel) rfl rfl ?_
    refine e_L (L' := [some (aR 2), some (aI v1), some (aI (v2 + 1)), some (aI v3), some (aI v4), some (aL v5), none, some (aI v7), some (aI v8)]) (st' := [aI v8, aL v5]) (show decode (mC 96) 52 = .ok (.iload 8, 2) by decide +kernel) rfl rfl ?_
    exact e_S (as := [aL v5, aI v8]) (rest := []) (show decode (mC 96) 54 = .ok (.invokestatic 73, 3) by decide +kernel) (by decide +kernel) (show (decide ((2 : Nat) = mA 156) && decide (156 < q_law)) = true by decide +kernel) rfl (show (0 : Nat) ≤ 8 by decide) (show (3 : Nat) ≤ mL 156 by decide +kernel) (tm_le hQ (leS (leS (leS (leS (leS (leN (leS (leS (leN leE))))))))) (m2 p1))
/-- SoulOffice$Tape.addRun(I)I, from 57 -/
theorem b96_57 (hG : Shp G) {v1 v2 v3 v4 v7 u0 : Int}
    (k0 : T (d + 1) 96 13 [some (aR 2), some (aI v1), some (aI v2), some (aI v3), some (aI v4), some (aL u0), none, some (aI (v7 + 1)), none] [] (G, c) Q) :
    T (d + 1) 96 57 [some (aR 2), some (aI v1), some (aI v2), some (aI v3), some (aI v4), none, none, some (aI v7), none] [aL u0] (G, c) Q := by
  refine e_L (L' := [some (aR 2), some (aI v1), some (aI v2), some (aI v3), some (aI v4), some (aL u0), none, some (aI v7), none]) (st' := []) (show decode (mC 96) 57 = .ok (.lstore 5, 2) by decide +kernel) rfl rfl ?_
  refine e_go (t := 86) (show decode (mC 96) 59 = .ok (.goto 27, 3) by decide +kernel) (by decide) ?_
  refine e_L (L' := [some (aR 2), some (aI v1), some (aI v2), some (aI v3), some (aI v4), some (aL u0), none, some (aI (v7 + 1)), none]) (st' := []) (show decode (mC 96) 86 = .ok (.iinc 7 1, 3) by decide +kernel) rfl rfl ?_
  refine e_go (t := 13) (show decode (mC 96) 89 = .ok (.goto (-76), 3) by decide +kernel) (by decide) ?_
  exact k0
/-- SoulOffice$Tape.addRun(I)I, from 67 -/
theorem b96_67 (hG : Shp G) {v1 v2 v3 v4 v5 v7 v8 u0 : Int} (hQ : ∀ o o' h', q_eqo o o' → Q o h' → Q o' h')
    (s0 : -2147483648 ≤ u0 ∧ u0 < 2147483648)
    (s1 : (u0 = 0) → -2147483648 ≤ v2 ∧ v2 < 2147483648)
    (s2 : (u0 = 0) → (¬ v2 = 0) → -2147483648 ≤ v3 ∧ v3 < 2147483648)
    (m3 : (u0 = 0) → (¬ v2 = 0) → (¬ v3 = 0) → TM d 97 [aR 2, aI 5, aI v1, aI 0, aL 0] (G, c) (fun r h' => T (d + 1) 96 167 [none, none, none, none, none, none, none, some (aI v7), none] (r.toList ++ []) h' Q))
    (m4 : (u0 = 0) → (¬ v2 = 0) → (v3 = 0) → (7 < v2) → TM d 97 [aR 2, aI 5, aI v1, aI 0, aL 0] (G, c) (fun r h' => T (d + 1) 96 167 [none, none, none, none, none, none, none, some (aI v7), none] (r.toList ++ []) h' Q))
    (m5 : (u0 = 0) → (¬ v2 = 0) → (v3 = 0) → (v2 ≤ 7) → TM d 108 [aL v5, aR 4, aI 20] (G, c) (fun r h' => T (d + 1) 96 134 [some (aR 2), some (aI v1), none, none, none, some (aL v5), none, some (aI v7), none] (r.toList ++ []) h' Q))
    (s6 : (u0 = 0) → (v2 = 0) → -2147483648 ≤ v3 ∧ v3 < 2147483648)
    (m7 : (u0 = 0) → (v2 = 0) → (3 < v3) → (¬ v3 = 0) → TM d 97 [aR 2, aI 5, aI v1, aI 0, aL 0] (G, c) (fun r h' => T (d + 1) 96 167 [none, none, none, none, none, none, none, some (aI v7), none] (r.toList ++ []) h' Q))
    (m8 : (u0 = 0) → (v2 = 0) → (3 < v3) → (v3 = 0) → (7 < v2) → TM d 97 [aR 2, aI 5, aI v1, aI 0, aL 0] (G, c) (fun r h' => T (d + 1) 96 167 [none, none, none, none, none, none, none, some (aI v7), none] (r.toList ++ []) h' Q))
    (m9 : (u0 = 0) → (v2 = 0) → (3 < v3) → (v3 = 0) → (v2 ≤ 7) → TM d 108 [aL v5, aR 4, aI 20] (G, c) (fun r h' => T (d + 1) 96 134 [some (aR 2), some (aI v1), none, none, none, some (aL v5), none, some (aI v7), none] (r.toList ++ []) h' Q))
    (m10 : (u0 = 0) → (v2 = 0) → (v3 ≤ 3) → TM d 97 [aR 2, aI 3, aI v1, aI v4, aL 0] (G, c) (fun r h' => T (d + 1) 96 110 [none, none, none, none, none, none, none, some (aI v7), none] (r.toList ++ []) h' Q))
    (k11 : (¬ u0 = 0) → T (d + 1) 96 13 [some (aR 2), some (aI v1), some (aI v2), some (aI (v3 + 1)), some (aI ((v4 * 10) + (v8 - 48))), some (aL v5), none, some (aI (v7 + 1)), none] [] (G, c) Q) :
    T (d + 1) 96 67 [some (aR 2), some (aI v1), some (aI v2), some (aI v3), some (aI v4), some (aL v5), none, some (aI v7), some (aI v8)] [aI u0] (G, c) Q := by
  refine e_eq1 (t := 92) (show decode (mC 96) 67 = .ok (.ifCond .eq 25, 3) by decide +kernel) (by decide) s0 (fun p1 => ?_) (fun p1 => ?_)
  · refine e_L (L' := [some (aR 2), some (aI v1), some (aI v2), some (aI v3), some (aI v4), some (aL v5), none, some (aI v7), some (aI v8)]) (st' := [aI v2]) (show decode (mC 96) 92 = .ok (.iload_n 2, 1) by decide +kernel) rfl rfl ?_
    refine e_ne1 (t := 113) (show decode (mC 96) 93 = .ok (.ifCond .ne 20, 3) by decide +kernel) (by decide) (s1 p1) (fun p2 => ?_) (fun p2 => ?_)
    · refine e_L (L' := [some (aR 2), some (aI v1), some (aI v2), some (aI v3), some (aI v4), some (aL v5), none, some (aI v7), some (aI v8)]) (st' := [aI v3]) (show decode (mC 96) 113 = .ok (.iload_n 3, 1) by decide +kernel) rfl rfl ?_
      refine e_ne1 (t := 159) (show decode (mC 96) 114 = .ok (.ifCond .ne 45, 3) by decide +kernel) (by decide) (s2 p1 p2) (fun p3 => ?_) (fun p3 => ?_)
      · refine e_L (L' := [some (aR 2), some (aI v1), some (aI v2), some (aI v3), some (aI v4), some (aL v5), none, some (aI v7), some (aI v8)]) (st' := [aR 2]) (show decode (mC 96) 159 = .ok (.aload_n 0, 1) by decide +kernel) rfl (by show (if 2 = 0 then none else some (_, _)) = _; rw [if_neg (by decide)]) ?_
        refine e_P (st' := [aI 5, aR 2]) (show decode (mC 96) 160 = .ok (.iconst 5, 1) by decide +kernel) rfl rfl rfl ?_
        refine e_L (L' := [some (aR 2), some (aI v1), some (aI v2), some (aI v3), some (aI v4), some (aL v5), none, some (aI v7), some (aI v8)]) (st' := [aI v1, aI 5, aR 2]) (show decode (mC 96) 161 = .ok (.iload_n 1, 1) by decide +kernel) rfl rfl ?_
        refine e_P (st' := [aI 0, aI v1, aI 5, aR 2]) (show decode (mC 96) 162 = .ok (.iconst 0, 1) by decide +kernel) rfl rfl rfl ?_
        refine e_P (st' := [aL 0, aI 0, aI v1, aI 5, aR 2]) (show decode (mC 96) 163 = .ok (.lconst 0, 1) by decide +kernel) rfl rfl rfl ?_
        exact e_V (as := [aR 2, aI 5, aI v1, aI 0, aL 0]) (rest := []) (show decode (mC 96) 164 = .ok (.invokevirtual 63, 3) by decide +kernel) (by decide +kernel) (show (decide ((5 : Nat) = mA 97) && decide (97 < q_law)) = true by decide +kernel) rfl (show (0 : Nat) ≤ 8 by decide) (show (6 : Nat) ≤ mL 97 by decide +kernel) rfl (sh_ok hG (by decide +kernel)) (tm_le hQ (leN (leN (leN (leN (leN (leN (leS (leS (leN leE))))))))) (m3 p1 p2 p3))
      · refine e_L (L' := [some (aR 2), some (aI v1), some (aI v2), some (aI v3), some (aI v4), some (aL v5), none, some (aI v7), some (aI v8)]) (st' := [aI v2]) (show decode (mC 96) 117 = .ok (.iload_n 2, 1) by decide +kernel) rfl rfl ?_
        refine e_P (st' := [aI 7, aI v2]) (show decode (mC 96) 118 = .ok (.bipush 7, 2) by decide +kernel) rfl rfl rfl ?_
        refine e_gt2 (t := 159) (show decode (mC 96) 120 = .ok (.if_icmp .gt 39, 3) by decide +kernel) (by decide) (s1 p1) (by decide) (fun p4 => ?_) (fun p4 => ?_)
        · refine e_L (L' := [some (aR 2), some (aI v1), some (aI v2), some (aI v3), some (aI v4), some (aL v5), none, some (aI v7), some (aI v8)]) (st' := [aR 2]) (show decode (mC 96) 159 = .ok (.aload_n 0, 1) by decide +kernel) rfl (by show (if 2 = 0 then none else some (_, _)) = _; rw [if_neg (by decide)]) ?_
          refine e_P (st' := [aI 5, aR 2]) (show decode (mC 96) 160 = .ok (.iconst 5, 1) by decide +kernel) rfl rfl rfl ?_
          refine e_L (L' := [some (aR 2), some (aI v1), some (aI v2), some (aI v3), some (aI v4), some (aL v5), none, some (aI v7), some (aI v8)]) (st' := [aI v1, aI 5, aR 2]) (show decode (mC 96) 161 = .ok (.iload_n 1, 1) by decide +kernel) rfl rfl ?_
          refine e_P (st' := [aI 0, aI v1, aI 5, aR 2]) (show decode (mC 96) 162 = .ok (.iconst 0, 1) by decide +kernel) rfl rfl rfl ?_
          refine e_P (st' := [aL 0, aI 0, aI v1, aI 5, aR 2]) (show decode (mC 96) 163 = .ok (.lconst 0, 1) by decide +kernel) rfl rfl rfl ?_
          exact e_V (as := [aR 2, aI 5, aI v1, aI 0, aL 0]) (rest := []) (show decode (mC 96) 164 = .ok (.invokevirtual 63, 3) by decide +kernel) (by decide +kernel) (show (decide ((5 : Nat) = mA 97) && decide (97 < q_law)) = true by decide +kernel) rfl (show (0 : Nat) ≤ 8 by decide) (show (6 : Nat) ≤ mL 97 by decide +kernel) rfl (sh_ok hG (by decide +kernel)) (tm_le hQ (leN (leN (leN (leN (leN (leN (leS (leS (leN leE))))))))) (m4 p1 p2 p3 p4))
        · refine e_L (L' := [some (aR 2), some (aI v1), some (aI v2), some (aI v3), some (aI v4), some (aL v5), none, some (aI v7), some (aI v8)]) (st' := [aL v5]) (show decode (mC 96) 123 = .ok (.lload 5, 2) by decide +kernel) rfl rfl ?_
          refine e_L (L' := [some (aR 2), some (aI v1), some (aI v2), some (aI v3), some (aI v4), some (aL v5), none, some (aI v7), some (aI v8)]) (st' := [aR 2, aL v5]) (show decode (mC 96) 125 = .ok (.aload_n 0, 1) by decide +kernel) rfl (by show (if 2 = 0 then none else some (_, _)) = _; rw [if_neg (by decide)]) ?_
          refine e_getR (w := 4) (show decode (mC 96) 126 = .ok (.getfield 19, 3) by decide +kernel) (show pl 10 19 = some (0, 10, 2, 0) by decide +kernel) (by decide) (sh_ok hG (by decide +kernel)) (sh_rf hG (by decide +kernel)) ?_
          refine e_P (st' := [aI 20, aR 4, aL v5]) (show decode (mC 96) 129 = .ok (.bipush 20, 2) by decide +kernel) rfl rfl rfl ?_
          exact e_S (as := [aL v5, aR 4, aI 20]) (rest := []) (show decode (mC 96) 131 = .ok (.invokestatic 77, 3) by decide +kernel) (by decide +kernel) (show (decide ((3 : Nat) = mA 108) && decide (108 < q_law)) = true by decide +kernel) rfl (show (0 : Nat) ≤ 8 by decide) (show (4 : Nat) ≤ mL 108 by decide +kernel) (tm_le hQ (leS (leS (leN (leN (leN (leS (leS (leS (leN leE))))))))) (m5 p1 p2 p3 p4))
    · refine e_L (L' := [some (aR 2), some (aI v1), some (aI v2), some (aI v3), some (aI v4), some (aL v5), none, some (aI v7), some (aI v8)]) (st' := [aI v3]) (show decode (mC 96) 96 = .ok (.iload_n 3, 1) by decide +kernel) rfl rfl ?_
      refine e_P (st' := [aI 3, aI v3]) (show decode (mC 96) 97 = .ok (.iconst 3, 1) by decide +kernel) rfl rfl rfl ?_
      refine e_gt2 (t := 113) (show decode (mC 96) 98 = .ok (.if_icmp .gt 15, 3) by decide +kernel) (by decide) (s6 p1 p2) (by decide) (fun p3 => ?_) (fun p3 => ?_)
      · refine e_L (L' := [some (aR 2), some (aI v1), some (aI v2), some (aI v3), some (aI v4), some (aL v5), none, some (aI v7), some (aI v8)]) (st' := [aI v3]) (show decode (mC 96) 113 = .ok (.iload_n 3, 1) by decide +kernel) rfl rfl ?_
        refine e_ne1 (t := 159) (show decode (mC 96) 114 = .ok (.ifCond .ne 45, 3) by decide +kernel) (by decide) (s6 p1 p2) (fun p4 => ?_) (fun p4 => ?_)
        · refine e_L (L' := [some (aR 2), some (aI v1), some (aI v2), some (aI v3), some (aI v4), some (aL v5), none, some (aI v7), some (aI v8)]) (st' := [aR 2]) (show decode (mC 96) 159 = .ok (.aload_n 0, 1) by decide +kernel) rfl (by show (if 2 = 0 then none else some (_, _)) = _; rw [if_neg (by decide)]) ?_
          refine e_P (st' := [aI 5, aR 2]) (show decode (mC 96) 160 = .ok (.iconst 5, 1) by decide +kernel) rfl rfl rfl ?_
          refine e_L (L' := [some (aR 2), some (aI v1), some (aI v2), some (aI v3), some (aI v4), some (aL v5), none, some (aI v7), some (aI v8)]) (st' := [aI v1, aI 5, aR 2]) (show decode (mC 96) 161 = .ok (.iload_n 1, 1) by decide +kernel) rfl rfl ?_
          refine e_P (st' := [aI 0, aI v1, aI 5, aR 2]) (show decode (mC 96) 162 = .ok (.iconst 0, 1) by decide +kernel) rfl rfl rfl ?_
          refine e_P (st' := [aL 0, aI 0, aI v1, aI 5, aR 2]) (show decode (mC 96) 163 = .ok (.lconst 0, 1) by decide +kernel) rfl rfl rfl ?_
          exact e_V (as := [aR 2, aI 5, aI v1, aI 0, aL 0]) (rest := []) (show decode (mC 96) 164 = .ok (.invokevirtual 63, 3) by decide +kernel) (by decide +kernel) (show (decide ((5 : Nat) = mA 97) && decide (97 < q_law)) = true by decide +kernel) rfl (show (0 : Nat) ≤ 8 by decide) (show (6 : Nat) ≤ mL 97 by decide +kernel) rfl (sh_ok hG (by decide +kernel)) (tm_le hQ (leN (leN (leN (leN (leN (leN (leS (leS (leN leE))))))))) (m7 p1 p2 p3 p4))
        · refine e_L (L' := [some (aR 2), some (aI v1), some (aI v2), some (aI v3), some (aI v4), some (aL v5), none, some (aI v7), some (aI v8)]) (st' := [aI v2]) (show decode (mC 96) 117 = .ok (.iload_n 2, 1) by decide +kernel) rfl rfl ?_
          refine e_P (st' := [aI 7, aI v2]) (show decode (mC 96) 118 = .ok (.bipush 7, 2) by decide +kernel) rfl rfl rfl ?_
          refine e_gt2 (t := 159) (show decode (mC 96) 120 = .ok (.if_icmp .gt 39, 3) by decide +kernel) (by decide) (s1 p1) (by decide) (fun p5 => ?_) (fun p5 => ?_)
          · refine e_L (L' := [some (aR 2), some (aI v1), some (aI v2), some (aI v3), some (aI v4), some (aL v5), none, some (aI v7), some (aI v8)]) (st' := [aR 2]) (show decode (mC 96) 159 = .ok (.aload_n 0, 1) by decide +kernel) rfl (by show (if 2 = 0 then none else some (_, _)) = _; rw [if_neg (by decide)]) ?_
            refine e_P (st' := [aI 5, aR 2]) (show decode (mC 96) 160 = .ok (.iconst 5, 1) by decide +kernel) rfl rfl rfl ?_
            refine e_L (L' := [some (aR 2), some (aI v1), some (aI v2), some (aI v3), some (aI v4), some (aL v5), none, some (aI v7), some (aI v8)]) (st' := [aI v1, aI 5, aR 2]) (show decode (mC 96) 161 = .ok (.iload_n 1, 1) by decide +kernel) rfl rfl ?_
            refine e_P (st' := [aI 0, aI v1, aI 5, aR 2]) (show decode (mC 96) 162 = .ok (.iconst 0, 1) by decide +kernel) rfl rfl rfl ?_
            refine e_P (st' := [aL 0, aI 0, aI v1, aI 5, aR 2]) (show decode (mC 96) 163 = .ok (.lconst 0, 1) by decide +kernel) rfl rfl rfl ?_
            exact e_V (as := [aR 2, aI 5, aI v1, aI 0, aL 0]) (rest := []) (show decode (mC 96) 164 = .ok (.invokevirtual 63, 3) by decide +kernel) (by decide +kernel) (show (decide ((5 : Nat) = mA 97) && decide (97 < q_law)) = true by decide +kernel) rfl (show (0 : Nat) ≤ 8 by decide) (show (6 : Nat) ≤ mL 97 by decide +kernel) rfl (sh_ok hG (by decide +kernel)) (tm_le hQ (leN (leN (leN (leN (leN (leN (leS (leS (leN leE))))))))) (m8 p1 p2 p3 p4 p5))
          · refine e_L (L' := [some (aR 2), some (aI v1), some (aI v2), some (aI v3), some (aI v4), some (aL v5), none, some (aI v7), some (aI v8)]) (st' := [aL v5]) (show decode (mC 96) 123 = .ok (.lload 5, 2) by decide +kernel) rfl rfl ?_
            refine e_L (L' := [some (aR 2), some (aI v1), some (aI v2), some (aI v3), some (aI v4), some (aL v5), none, some (aI v7), some (aI v8)]) (st' := [aR 2, aL v5]) (show decode (mC 96) 125 = .ok (.aload_n 0, 1) by decide +kernel) rfl (by show (if 2 = 0 then none else some (_, _)) = _; rw [if_neg (by decide)]) ?_
            refine e_getR (w := 4) (show decode (mC 96) 126 = .ok (.getfield 19, 3) by decide +kernel) (show pl 10 19 = some (0, 10, 2, 0) by decide +kernel) (by decide) (sh_ok hG (by decide +kernel)) (sh_rf hG (by decide +kernel)) ?_
            refine e_P (st' := [aI 20, aR 4, aL v5]) (show decode (mC 96) 129 = .ok (.bipush 20, 2) by decide +kernel) rfl rfl rfl ?_
            exact e_S (as := [aL v5, aR 4, aI 20]) (rest := []) (show decode (mC 96) 131 = .ok (.invokestatic 77, 3) by decide +kernel) (by decide +kernel) (show (decide ((3 : Nat) = mA 108) && decide (108 < q_law)) = true by decide +kernel) rfl (show (0 : Nat) ≤ 8 by decide) (show (4 : Nat) ≤ mL 108 by decide +kernel) (tm_le hQ (leS (leS (leN (leN (leN (leS (leS (leS (leN leE))))))))) (m9 p1 p2 p3 p4 p5))
      · refine e_L (L' := [some (aR 2), some (aI v1), some (aI v2), some (aI v3), some (aI v4), some (aL v5), none, some (aI v7), some (aI v8)]) (st' := [aR 2]) (show decode (mC 96) 101 = .ok (.aload_n 0, 1) by decide +kernel) rfl (by show (if 2 = 0 then none else some (_, _)) = _; rw [if_neg (by decide)]) ?_
        refine e_P (st' := [aI 3, aR 2]) (show decode (mC 96) 102 = .ok (.iconst 3, 1) by decide +kernel) rfl rfl rfl ?_
        refine e_L (L' := [some (aR 2), some (aI v1), some (aI v2), some (aI v3), some (aI v4), some (aL v5), none, some (aI v7), some (aI v8)]) (st' := [aI v1, aI 3, aR 2]) (show decode (mC 96) 103 = .ok (.iload_n 1, 1) by decide +kernel) rfl rfl ?_
        refine e_L (L' := [some (aR 2), some (aI v1), some (aI v2), some (aI v3), some (aI v4), some (aL v5), none, some (aI v7), some (aI v8)]) (st' := [aI v4, aI v1, aI 3, aR 2]) (show decode (mC 96) 104 = .ok (.iload 4, 2) by decide +kernel) rfl rfl ?_
        refine e_P (st' := [aL 0, aI v4, aI v1, aI 3, aR 2]) (show decode (mC 96) 106 = .ok (.lconst 0, 1) by decide +kernel) rfl rfl rfl ?_
        exact e_V (as := [aR 2, aI 3, aI v1, aI v4, aL 0]) (rest := []) (show decode (mC 96) 107 = .ok (.invokevirtual 63, 3) by decide +kernel) (by decide +kernel) (show (decide ((5 : Nat) = mA 97) && decide (97 < q_law)) = true by decide +kernel) rfl (show (0 : Nat) ≤ 8 by decide) (show (6 : Nat) ≤ mL 97 by decide +kernel) rfl (sh_ok hG (by decide +kernel)) (tm_le hQ (leN (leN (leN (leN (leN (leN (leS (leS (leN leE))))))))) (m10 p1 p2 p3))
  · refine e_L (L' := [some (aR 2), some (aI v1), some (aI v2), some (aI (v3 + 1)), some (aI v4), some (aL v5), none, some (aI v7), some (aI v8)]) (st' := []) (show decode (mC 96) 70 = .ok (.iinc 3 1, 3) by decide +kernel) rfl rfl ?_
    refine e_L (L' := [some (aR 2), some (aI v1), some (aI v2), some (aI (v3 + 1)), some (aI v4), some (aL v5), none, some (aI v7), some (aI v8)]) (st' := [aI v4]) (show decode (mC 96) 73 = .ok (.iload 4, 2) by decide +kernel) rfl rfl ?_
    refine e_P (st' := [aI 10, aI v4]) (show decode (mC 96) 75 = .ok (.bipush 10, 2) by decide +kernel) rfl rfl rfl ?_
    refine e_P (st' := [aI (v4 * 10)]) (show decode (mC 96) 77 = .ok (.imul, 1) by decide +kernel) rfl rfl rfl ?_
    refine e_L (L' := [some (aR 2), some (aI v1), some (aI v2), some (aI (v3 + 1)), some (aI v4), some (aL v5), none, some (aI v7), some (aI v8)]) (st' := [aI v8, aI (v4 * 10)]) (show decode (mC 96) 78 = .ok (.iload 8, 2) by decide +kernel) rfl rfl ?_
    refine e_P (st' := [aI 48, aI v8, aI (v4 * 10)]) (show decode (mC 96) 80 = .ok (.bipush 48, 2) by decide +kernel) rfl rfl rfl ?_
    refine e_P (st' := [aI (v8 - 48), aI (v4 * 10)]) (show decode (mC 96) 82 = .ok (.isub, 1) by decide +kernel) rfl rfl rfl ?_
    refine e_P (st' := [aI ((v4 * 10) + (v8 - 48))]) (show decode (mC 96) 83 = .ok (.iadd, 1) by decide +kernel) rfl rfl rfl ?_
    refine e_L (L' := [some (aR 2), some (aI v1), some (aI v2), some (aI (v3 + 1)), some (aI ((v4 * 10) + (v8 - 48))), some (aL v5), none, some (aI v7), some (aI v8)]) (st' := []) (show decode (mC 96) 84 = .ok (.istore 4, 2) by decide +kernel) rfl rfl ?_
    refine e_L (L' := [some (aR 2), some (aI v1), some (aI v2), some (aI (v3 + 1)), some (aI ((v4 * 10) + (v8 - 48))), some (aL v5), none, some (aI (v7 + 1)), some (aI v8)]) (st' := []) (show decode (mC 96) 86 = .ok (.iinc 7 1, 3) by decide +kernel) rfl rfl ?_
    refine e_go (t := 13) (show decode (mC 96) 89 = .ok (.goto (-76), 3) by decide +kernel) (by decide) ?_
    exact T_le hQ (leS (leS (leS (leS (leS (leS (leS (leS (leN leE))))))))) (k11 p1)
/-- SoulOffice$Tape.addRun(I)I, from 110 -/
theorem b96_110 (hG : Shp G) {v7 : Int}
    (k0 : T (d + 1) 96 167 [none, none, none, none, none, none, none, some (aI v7), none] [] (G, c) Q) :
    T (d + 1) 96 110 [none, none, none, none, none, none, none, some (aI v7), none] [] (G, c) Q := by
  refine e_go (t := 167) (show decode (mC 96) 110 = .ok (.goto 57, 3) by decide +kernel) (by decide) ?_
  exact k0
/-- SoulOffice$Tape.addRun(I)I, from 134 -/
theorem b96_134 (hG : Shp G) {v1 v5 v7 u0 : Int} (hQ : ∀ o o' h', q_eqo o o' → Q o h' → Q o' h')
    (s0 : -2147483648 ≤ u0 ∧ u0 < 2147483648)
    (m1 : (¬ u0 = (-1)) → TM d 97 [aR 2, aI 2, aI v1, aI u0, aL v5] (G, c) (fun r h' => T (d + 1) 96 156 [none, none, none, none, none, none, none, some (aI v7), none] (r.toList ++ []) h' Q))
    (m2 : (u0 = (-1)) → TM d 97 [aR 2, aI 1, aI v1, aI u0, aL v5] (G, c) (fun r h' => T (d + 1) 96 156 [none, none, none, none, none, none, none, some (aI v7), none] (r.toList ++ []) h' Q)) :
    T (d + 1) 96 134 [some (aR 2), some (aI v1), none, none, none, some (aL v5), none, some (aI v7), none] [aI u0] (G, c) Q := by
  refine e_L (L' := [some (aR 2), some (aI v1), none, none, none, some (aL v5), none, some (aI v7), some (aI u0)]) (st' := []) (show decode (mC 96) 134 = .ok (.istore 8, 2) by decide +kernel) rfl rfl ?_
  refine e_L (L' := [some (aR 2), some (aI v1), none, none, none, some (aL v5), none, some (aI v7), some (aI u0)]) (st' := [aR 2]) (show decode (mC 96) 136 = .ok (.aload_n 0, 1) by decide +kernel) rfl (by show (if 2 = 0 then none else some (_, _)) = _; rw [if_neg (by decide)]) ?_
  refine e_L (L' := [some (aR 2), some (aI v1), none, none, none, some (aL v5), none, some (aI v7), some (aI u0)]) (st' := [aI u0, aR 2]) (show decode (mC 96) 137 = .ok (.iload 8, 2) by decide +kernel) rfl rfl ?_
  refine e_P (st' := [aI (-1), aI u0, aR 2]) (show decode (mC 96) 139 = .ok (.iconst (-1), 1) by decide +kernel) rfl rfl rfl ?_
  refine e_ne2 (t := 147) (show decode (mC 96) 140 = .ok (.if_icmp .ne 7, 3) by decide +kernel) (by decide) s0 (by decide) (fun p1 => ?_) (fun p1 => ?_)
  · refine e_P (st' := [aI 2, aR 2]) (show decode (mC 96) 147 = .ok (.iconst 2, 1) by decide +kernel) rfl rfl rfl ?_
    refine e_L (L' := [some (aR 2), some (aI v1), none, none, none, some (aL v5), none, some (aI v7), some (aI u0)]) (st' := [aI v1, aI 2, aR 2]) (show decode (mC 96) 148 = .ok (.iload_n 1, 1) by decide +kernel) rfl rfl ?_
    refine e_L (L' := [some (aR 2), some (aI v1), none, none, none, some (aL v5), none, some (aI v7), some (aI u0)]) (st' := [aI u0, aI v1, aI 2, aR 2]) (show decode (mC 96) 149 = .ok (.iload 8, 2) by decide +kernel) rfl rfl ?_
    refine e_L (L' := [some (aR 2), some (aI v1), none, none, none, some (aL v5), none, some (aI v7), some (aI u0)]) (st' := [aL v5, aI u0, aI v1, aI 2, aR 2]) (show decode (mC 96) 151 = .ok (.lload 5, 2) by decide +kernel) rfl rfl ?_
    exact e_V (as := [aR 2, aI 2, aI v1, aI u0, aL v5]) (rest := []) (show decode (mC 96) 153 = .ok (.invokevirtual 63, 3) by decide +kernel) (by decide +kernel) (show (decide ((5 : Nat) = mA 97) && decide (97 < q_law)) = true by decide +kernel) rfl (show (0 : Nat) ≤ 8 by decide) (show (6 : Nat) ≤ mL 97 by decide +kernel) rfl (sh_ok hG (by decide +kernel)) (tm_le hQ (leN (leN (leS (leS (leS (leN (leS (leS (leN leE))))))))) (m1 p1))
  · refine e_P (st' := [aI 1, aR 2]) (show decode (mC 96) 143 = .ok (.iconst 1, 1) by decide +kernel) rfl rfl rfl ?_
    refine e_go (t := 148) (show decode (mC 96) 144 = .ok (.goto 4, 3) by decide +kernel) (by decide) ?_
    refine e_L (L' := [some (aR 2), some (aI v1), none, none, none, some (aL v5), none, some (aI v7), some (aI u0)]) (st' := [aI v1, aI 1, aR 2]) (show decode (mC 96) 148 = .ok (.iload_n 1, 1) by decide +kernel) rfl rfl ?_
    refine e_L (L' := [some (aR 2), some (aI v1), none, none, none, some (aL v5), none, some (aI v7), some (aI u0)]) (st' := [aI u0, aI v1, aI 1, aR 2]) (show decode (mC 96) 149 = .ok (.iload 8, 2) by decide +kernel) rfl rfl ?_
    refine e_L (L' := [some (aR 2), some (aI v1), none, none, none, some (aL v5), none, some (aI v7), some (aI u0)]) (st' := [aL v5, aI u0, aI v1, aI 1, aR 2]) (show decode (mC 96) 151 = .ok (.lload 5, 2) by decide +kernel) rfl rfl ?_
    exact e_V (as := [aR 2, aI 1, aI v1, aI u0, aL v5]) (rest := []) (show decode (mC 96) 153 = .ok (.invokevirtual 63, 3) by decide +kernel) (by decide +kernel) (show (decide ((5 : Nat) = mA 97) && decide (97 < q_law)) = true by decide +kernel) rfl (show (0 : Nat) ≤ 8 by decide) (show (6 : Nat) ≤ mL 97 by decide +kernel) rfl (sh_ok hG (by decide +kernel)) (tm_le hQ (leN (leN (leS (leS (leS (leN (leS (leS (leN leE))))))))) (m2 p1))
/-- SoulOffice$Tape.addRun(I)I, from 156 -/
theorem b96_156 (hG : Shp G) {v7 : Int}
    (k0 : T (d + 1) 96 167 [none, none, none, none, none, none, none, some (aI v7), none] [] (G, c) Q) :
    T (d + 1) 96 156 [none, none, none, none, none, none, none, some (aI v7), none] [] (G, c) Q := by
  refine e_go (t := 167) (show decode (mC 96) 156 = .ok (.goto 11, 3) by decide +kernel) (by decide) ?_
  exact k0
/-- SoulOffice$Tape.addRun(I)I, from 167 -/
theorem b96_167 (hG : Shp G) {v7 : Int}
    (z0 : Q (.inl (some (aI v7))) (G, c)) :
    T (d + 1) 96 167 [none, none, none, none, none, none, none, some (aI v7), none] [] (G, c) Q := by
  refine e_L (L' := [none, none, none, none, none, none, none, some (aI v7), none]) (st' := [aI v7]) (show decode (mC 96) 167 = .ok (.iload 7, 2) by decide +kernel) rfl rfl ?_
  exact e_iret (show decode (mC 96) 169 = .ok (.ireturn, 1) by decide +kernel) rfl z0
/-- SoulOffice$Tape.addToken(IIIJ)V, from 0 -/
theorem b97_0 (hG : Shp G) {v1 v2 v3 v4 x1 x2 x3 x4 x5 x6 : Int}
    (ex1 : c 2 7 = x1)
    (s1 : -2147483648 ≤ x1 ∧ x1 < 2147483648)
    (z2 : (940 < x1) → Q (.inl none) (G, c))
    (ex2 : c 2 7 = x2)
    (s4 : (x1 ≤ 940) → 0 ≤ x2)
    (s5 : (x1 ≤ 940) → x2 < 941)
    (ex3 : (q_up c 5 x2 v1) 2 7 = x3)
    (s7 : (x1 ≤ 940) → 0 ≤ x3)
    (s8 : (x1 ≤ 940) → x3 < 941)
    (ex4 : (q_up (q_up c 5 x2 v1) 6 x3 v2) 2 7 = x4)
    (s10 : (x1 ≤ 940) → 0 ≤ x4)
    (s11 : (x1 ≤ 940) → x4 < 941)
    (ex5 : (q_up (q_up (q_up c 5 x2 v1) 6 x3 v2) 7 x4 v3) 2 7 = x5)
    (s13 : (x1 ≤ 940) → 0 ≤ x5)
    (s14 : (x1 ≤ 940) → x5 < 941)
    (ex6 : (q_up (q_up (q_up (q_up c 5 x2 v1) 6 x3 v2) 7 x4 v3) 8 x5 v4) 2 7 = x6)
    (z16 : (x1 ≤ 940) → Q (.inl none) (G, (q_up (q_up (q_up (q_up (q_up c 5 x2 v1) 6 x3 v2) 7 x4 v3) 8 x5 v4) 2 7 (x6 + 1)))) :
    T d 97 0 [some (aR 2), some (aI v1), some (aI v2), some (aI v3), some (aL v4), none] [] (G, c) Q := by
  refine e_L (L' := [some (aR 2), some (aI v1), some (aI v2), some (aI v3), some (aL v4), none]) (st' := [aR 2]) (show decode (mC 97) 0 = .ok (.aload_n 0, 1) by decide +kernel) rfl (by show (if 2 = 0 then none else some (_, _)) = _; rw [if_neg (by decide)]) ?_
  refine e_getIx (show decode (mC 97) 1 = .ok (.getfield 46, 3) by decide +kernel) (show pl 10 46 = some (0, 10, 7, 0) by decide +kernel) (by decide) (sh_ok hG (by decide +kernel)) ex1 ?_
  refine e_P (st' := [aI 940, aI x1]) (show decode (mC 97) 4 = .ok (.sipush 940, 3) by decide +kernel) rfl rfl rfl ?_
  refine e_gt2 (t := 61) (show decode (mC 97) 7 = .ok (.if_icmp .gt 54, 3) by decide +kernel) (by decide) s1 (by decide) (fun p1 => ?_) (fun p1 => ?_)
  · exact e_vret (show decode (mC 97) 61 = .ok (.return_, 1) by decide +kernel) rfl (z2 p1)
  · refine e_L (L' := [some (aR 2), some (aI v1), some (aI v2), some (aI v3), some (aL v4), none]) (st' := [aR 2]) (show decode (mC 97) 10 = .ok (.aload_n 0, 1) by decide +kernel) rfl (by show (if 2 = 0 then none else some (_, _)) = _; rw [if_neg (by decide)]) ?_
    refine e_getR (w := 5) (show decode (mC 97) 11 = .ok (.getfield 23, 3) by decide +kernel) (show pl 10 23 = some (0, 10, 3, 0) by decide +kernel) (by decide) (sh_ok hG (by decide +kernel)) (sh_rf hG (by decide +kernel)) ?_
    refine e_L (L' := [some (aR 2), some (aI v1), some (aI v2), some (aI v3), some (aL v4), none]) (st' := [aR 2, aR 5]) (show decode (mC 97) 14 = .ok (.aload_n 0, 1) by decide +kernel) rfl (by show (if 2 = 0 then none else some (_, _)) = _; rw [if_neg (by decide)]) ?_
    refine e_getIx (show decode (mC 97) 15 = .ok (.getfield 46, 3) by decide +kernel) (show pl 10 46 = some (0, 10, 7, 0) by decide +kernel) (by decide) (sh_ok hG (by decide +kernel)) ex2 ?_
    refine e_L (L' := [some (aR 2), some (aI v1), some (aI v2), some (aI v3), some (aL v4), none]) (st' := [aI v1, aI x2, aR 5]) (show decode (mC 97) 18 = .ok (.iload_n 1, 1) by decide +kernel) rfl rfl ?_
    refine e_iast (n := 941) (show decode (mC 97) 19 = .ok (.iastore, 1) by decide +kernel) (sh_ok hG (by decide +kernel)) (sh_ln hG (by decide +kernel)) (by decide) (s4 p1) (s5 p1) ?_
    refine e_L (L' := [some (aR 2), some (aI v1), some (aI v2), some (aI v3), some (aL v4), none]) (st' := [aR 2]) (show decode (mC 97) 20 = .ok (.aload_n 0, 1) by decide +kernel) rfl (by show (if 2 = 0 then none else some (_, _)) = _; rw [if_neg (by decide)]) ?_
    refine e_getR (w := 6) (show decode (mC 97) 21 = .ok (.getfield 26, 3) by decide +kernel) (show pl 10 26 = some (0, 10, 4, 0) by decide +kernel) (by decide) (sh_ok hG (by decide +kernel)) (sh_rf hG (by decide +kernel)) ?_
    refine e_L (L' := [some (aR 2), some (aI v1), some (aI v2), some (aI v3), some (aL v4), none]) (st' := [aR 2, aR 6]) (show decode (mC 97) 24 = .ok (.aload_n 0, 1) by decide +kernel) rfl (by show (if 2 = 0 then none else some (_, _)) = _; rw [if_neg (by decide)]) ?_
    refine e_getIx (show decode (mC 97) 25 = .ok (.getfield 46, 3) by decide +kernel) (show pl 10 46 = some (0, 10, 7, 0) by decide +kernel) (by decide) (sh_ok hG (by decide +kernel)) ex3 ?_
    refine e_L (L' := [some (aR 2), some (aI v1), some (aI v2), some (aI v3), some (aL v4), none]) (st' := [aI v2, aI x3, aR 6]) (show decode (mC 97) 28 = .ok (.iload_n 2, 1) by decide +kernel) rfl rfl ?_
    refine e_iast (n := 941) (show decode (mC 97) 29 = .ok (.iastore, 1) by decide +kernel) (sh_ok hG (by decide +kernel)) (sh_ln hG (by decide +kernel)) (by decide) (s7 p1) (s8 p1) ?_
    refine e_L (L' := [some (aR 2), some (aI v1), some (aI v2), some (aI v3), some (aL v4), none]) (st' := [aR 2]) (show decode (mC 97) 30 = .ok (.aload_n 0, 1) by decide +kernel) rfl (by show (if 2 = 0 then none else some (_, _)) = _; rw [if_neg (by decide)]) ?_
    refine e_getR (w := 7) (show decode (mC 97) 31 = .ok (.getfield 29, 3) by decide +kernel) (show pl 10 29 = some (0, 10, 5, 0) by decide +kernel) (by decide) (sh_ok hG (by decide +kernel)) (sh_rf hG (by decide +kernel)) ?_
    refine e_L (L' := [some (aR 2), some (aI v1), some (aI v2), some (aI v3), some (aL v4), none]) (st' := [aR 2, aR 7]) (show decode (mC 97) 34 = .ok (.aload_n 0, 1) by decide +kernel) rfl (by show (if 2 = 0 then none else some (_, _)) = _; rw [if_neg (by decide)]) ?_
    refine e_getIx (show decode (mC 97) 35 = .ok (.getfield 46, 3) by decide +kernel) (show pl 10 46 = some (0, 10, 7, 0) by decide +kernel) (by decide) (sh_ok hG (by decide +kernel)) ex4 ?_
    refine e_L (L' := [some (aR 2), some (aI v1), some (aI v2), some (aI v3), some (aL v4), none]) (st' := [aI v3, aI x4, aR 7]) (show decode (mC 97) 38 = .ok (.iload_n 3, 1) by decide +kernel) rfl rfl ?_
    refine e_iast (n := 941) (show decode (mC 97) 39 = .ok (.iastore, 1) by decide +kernel) (sh_ok hG (by decide +kernel)) (sh_ln hG (by decide +kernel)) (by decide) (s10 p1) (s11 p1) ?_
    refine e_L (L' := [some (aR 2), some (aI v1), some (aI v2), some (aI v3), some (aL v4), none]) (st' := [aR 2]) (show decode (mC 97) 40 = .ok (.aload_n 0, 1) by decide +kernel) rfl (by show (if 2 = 0 then none else some (_, _)) = _; rw [if_neg (by decide)]) ?_
    refine e_getR (w := 8) (show decode (mC 97) 41 = .ok (.getfield 32, 3) by decide +kernel) (show pl 10 32 = some (0, 10, 6, 0) by decide +kernel) (by decide) (sh_ok hG (by decide +kernel)) (sh_rf hG (by decide +kernel)) ?_
    refine e_L (L' := [some (aR 2), some (aI v1), some (aI v2), some (aI v3), some (aL v4), none]) (st' := [aR 2, aR 8]) (show decode (mC 97) 44 = .ok (.aload_n 0, 1) by decide +kernel) rfl (by show (if 2 = 0 then none else some (_, _)) = _; rw [if_neg (by decide)]) ?_
    refine e_getIx (show decode (mC 97) 45 = .ok (.getfield 46, 3) by decide +kernel) (show pl 10 46 = some (0, 10, 7, 0) by decide +kernel) (by decide) (sh_ok hG (by decide +kernel)) ex5 ?_
    refine e_L (L' := [some (aR 2), some (aI v1), some (aI v2), some (aI v3), some (aL v4), none]) (st' := [aL v4, aI x5, aR 8]) (show decode (mC 97) 48 = .ok (.lload 4, 2) by decide +kernel) rfl rfl ?_
    refine e_last (n := 941) (show decode (mC 97) 50 = .ok (.lastore, 1) by decide +kernel) (sh_ok hG (by decide +kernel)) (sh_ln hG (by decide +kernel)) (by decide) (s13 p1) (s14 p1) ?_
    refine e_L (L' := [some (aR 2), some (aI v1), some (aI v2), some (aI v3), some (aL v4), none]) (st' := [aR 2]) (show decode (mC 97) 51 = .ok (.aload_n 0, 1) by decide +kernel) rfl (by show (if 2 = 0 then none else some (_, _)) = _; rw [if_neg (by decide)]) ?_
    refine e_P (st' := [aR 2, aR 2]) (show decode (mC 97) 52 = .ok (.dup, 1) by decide +kernel) rfl rfl rfl ?_
    refine e_getIx (show decode (mC 97) 53 = .ok (.getfield 46, 3) by decide +kernel) (show pl 10 46 = some (0, 10, 7, 0) by decide +kernel) (by decide) (sh_ok hG (by decide +kernel)) ex6 ?_
    refine e_P (st' := [aI 1, aI x6, aR 2]) (show decode (mC 97) 56 = .ok (.iconst 1, 1) by decide +kernel) rfl rfl rfl ?_
    refine e_P (st' := [aI (x6 + 1), aR 2]) (show decode (mC 97) 57 = .ok (.iadd, 1) by decide +kernel) rfl rfl rfl ?_
    refine e_putI (show decode (mC 97) 58 = .ok (.putfield 46, 3) by decide +kernel) (show pl 10 46 = some (0, 10, 7, 0) by decide +kernel) (by decide) (sh_ok hG (by decide +kernel)) ?_
    exact e_vret (show decode (mC 97) 61 = .ok (.return_, 1) by decide +kernel) rfl (z16 p1)
/-- SoulOffice$Tape.advance()V, from 0 -/
theorem b98_0 (hG : Shp G) {x1 x2 x3 x4 x5 x6 x7 x8 x9 x10 x11 x12 : Int}
    (ex1 : c 2 8 = x1)
    (ex2 : c 2 7 = x2)
    (s2 : -2147483648 ≤ x1 ∧ x1 < 2147483648)
    (s3 : -2147483648 ≤ x2 ∧ x2 < 2147483648)
    (z4 : (x2 ≤ x1) → Q (.inl none) (G, c))
    (ex3 : c 2 8 = x3)
    (s6 : (x1 < x2) → -2147483648 ≤ x3 ∧ x3 < 2147483648)
    (z7 : (x1 < x2) → (940 < x3) → Q (.inl none) (G, c))
    (ex4 : c 2 8 = x4)
    (s9 : (x1 < x2) → (x3 ≤ 940) → 0 ≤ x4)
    (s10 : (x1 < x2) → (x3 ≤ 940) → x4 < 941)
    (ex5 : c 5 x4 = x5)
    (ex6 : (q_up c 2 10 x5) 2 8 = x6)
    (s13 : (x1 < x2) → (x3 ≤ 940) → 0 ≤ x6)
    (s14 : (x1 < x2) → (x3 ≤ 940) → x6 < 941)
    (ex7 : (q_up c 2 10 x5) 6 x6 = x7)
    (ex8 : (q_up (q_up c 2 10 x5) 2 11 x7) 2 8 = x8)
    (s17 : (x1 < x2) → (x3 ≤ 940) → 0 ≤ x8)
    (s18 : (x1 < x2) → (x3 ≤ 940) → x8 < 941)
    (ex9 : (q_up (q_up c 2 10 x5) 2 11 x7) 7 x8 = x9)
    (ex10 : (q_up (q_up (q_up c 2 10 x5) 2 11 x7) 2 12 x9) 2 8 = x10)
    (s21 : (x1 < x2) → (x3 ≤ 940) → 0 ≤ x10)
    (s22 : (x1 < x2) → (x3 ≤ 940) → x10 < 941)
    (ex11 : (q_up (q_up (q_up c 2 10 x5) 2 11 x7) 2 12 x9) 8 x10 = x11)
    (ex12 : (q_up (q_up (q_up (q_up c 2 10 x5) 2 11 x7) 2 12 x9) 2 13 x11) 2 8 = x12)
    (z25 : (x1 < x2) → (x3 ≤ 940) → Q (.inl none) (G, (q_up (q_up (q_up (q_up (q_up c 2 10 x5) 2 11 x7) 2 12 x9) 2 13 x11) 2 8 (x12 + 1)))) :
    T d 98 0 [some (aR 2)] [] (G, c) Q := by
  refine e_L (L' := [some (aR 2)]) (st' := [aR 2]) (show decode (mC 98) 0 = .ok (.aload_n 0, 1) by decide +kernel) rfl (by show (if 2 = 0 then none else some (_, _)) = _; rw [if_neg (by decide)]) ?_
  refine e_getIx (show decode (mC 98) 1 = .ok (.getfield 67, 3) by decide +kernel) (show pl 10 67 = some (0, 10, 8, 0) by decide +kernel) (by decide) (sh_ok hG (by decide +kernel)) ex1 ?_
  refine e_L (L' := [some (aR 2)]) (st' := [aR 2, aI x1]) (show decode (mC 98) 4 = .ok (.aload_n 0, 1) by decide +kernel) rfl (by show (if 2 = 0 then none else some (_, _)) = _; rw [if_neg (by decide)]) ?_
  refine e_getIx (show decode (mC 98) 5 = .ok (.getfield 46, 3) by decide +kernel) (show pl 10 46 = some (0, 10, 7, 0) by decide +kernel) (by decide) (sh_ok hG (by decide +kernel)) ex2 ?_
  refine e_ge2 (t := 83) (show decode (mC 98) 8 = .ok (.if_icmp .ge 75, 3) by decide +kernel) (by decide) s2 s3 (fun p1 => ?_) (fun p1 => ?_)
  · exact e_vret (show decode (mC 98) 83 = .ok (.return_, 1) by decide +kernel) rfl (z4 p1)
  · refine e_L (L' := [some (aR 2)]) (st' := [aR 2]) (show decode (mC 98) 11 = .ok (.aload_n 0, 1) by decide +kernel) rfl (by show (if 2 = 0 then none else some (_, _)) = _; rw [if_neg (by decide)]) ?_
    refine e_getIx (show decode (mC 98) 12 = .ok (.getfield 67, 3) by decide +kernel) (show pl 10 67 = some (0, 10, 8, 0) by decide +kernel) (by decide) (sh_ok hG (by decide +kernel)) ex3 ?_
    refine e_P (st' := [aI 940, aI x3]) (show decode (mC 98) 15 = .ok (.sipush 940, 3) by decide +kernel) rfl rfl rfl ?_
    refine e_gt2 (t := 83) (show decode (mC 98) 18 = .ok (.if_icmp .gt 65, 3) by decide +kernel) (by decide) (s6 p1) (by decide) (fun p2 => ?_) (fun p2 => ?_)
    · exact e_vret (show decode (mC 98) 83 = .ok (.return_, 1) by decide +kernel) rfl (z7 p1 p2)
    · refine e_L (L' := [some (aR 2)]) (st' := [aR 2]) (show decode (mC 98) 21 = .ok (.aload_n 0, 1) by decide +kernel) rfl (by show (if 2 = 0 then none else some (_, _)) = _; rw [if_neg (by decide)]) ?_
      refine e_L (L' := [some (aR 2)]) (st' := [aR 2, aR 2]) (show decode (mC 98) 22 = .ok (.aload_n 0, 1) by decide +kernel) rfl (by show (if 2 = 0 then none else some (_, _)) = _; rw [if_neg (by decide)]) ?_
      refine e_getR (w := 5) (show decode (mC 98) 23 = .ok (.getfield 23, 3) by decide +kernel) (show pl 10 23 = some (0, 10, 3, 0) by decide +kernel) (by decide) (sh_ok hG (by decide +kernel)) (sh_rf hG (by decide +kernel)) ?_
      refine e_L (L' := [some (aR 2)]) (st' := [aR 2, aR 5, aR 2]) (show decode (mC 98) 26 = .ok (.aload_n 0, 1) by decide +kernel) rfl (by show (if 2 = 0 then none else some (_, _)) = _; rw [if_neg (by decide)]) ?_
      refine e_getIx (show decode (mC 98) 27 = .ok (.getfield 67, 3) by decide +kernel) (show pl 10 67 = some (0, 10, 8, 0) by decide +kernel) (by decide) (sh_ok hG (by decide +kernel)) ex4 ?_
      refine e_ialdx (n := 941) (show decode (mC 98) 30 = .ok (.iaload, 1) by decide +kernel) (sh_ok hG (by decide +kernel)) (sh_ln hG (by decide +kernel)) (by decide) (s9 p1 p2) (s10 p1 p2) ex5 ?_
      refine e_putI (show decode (mC 98) 31 = .ok (.putfield 81, 3) by decide +kernel) (show pl 10 81 = some (0, 10, 10, 0) by decide +kernel) (by decide) (sh_ok hG (by decide +kernel)) ?_
      refine e_L (L' := [some (aR 2)]) (st' := [aR 2]) (show decode (mC 98) 34 = .ok (.aload_n 0, 1) by decide +kernel) rfl (by show (if 2 = 0 then none else some (_, _)) = _; rw [if_neg (by decide)]) ?_
      refine e_L (L' := [some (aR 2)]) (st' := [aR 2, aR 2]) (show decode (mC 98) 35 = .ok (.aload_n 0, 1) by decide +kernel) rfl (by show (if 2 = 0 then none else some (_, _)) = _; rw [if_neg (by decide)]) ?_
      refine e_getR (w := 6) (show decode (mC 98) 36 = .ok (.getfield 26, 3) by decide +kernel) (show pl 10 26 = some (0, 10, 4, 0) by decide +kernel) (by decide) (sh_ok hG (by decide +kernel)) (sh_rf hG (by decide +kernel)) ?_
      refine e_L (L' := [some (aR 2)]) (st' := [aR 2, aR 6, aR 2]) (show decode (mC 98) 39 = .ok (.aload_n 0, 1) by decide +kernel) rfl (by show (if 2 = 0 then none else some (_, _)) = _; rw [if_neg (by decide)]) ?_
      refine e_getIx (show decode (mC 98) 40 = .ok (.getfield 67, 3) by decide +kernel) (show pl 10 67 = some (0, 10, 8, 0) by decide +kernel) (by decide) (sh_ok hG (by decide +kernel)) ex6 ?_
      refine e_ialdx (n := 941) (show decode (mC 98) 43 = .ok (.iaload, 1) by decide +kernel) (sh_ok hG (by decide +kernel)) (sh_ln hG (by decide +kernel)) (by decide) (s13 p1 p2) (s14 p1 p2) ex7 ?_
      refine e_putI (show decode (mC 98) 44 = .ok (.putfield 84, 3) by decide +kernel) (show pl 10 84 = some (0, 10, 11, 0) by decide +kernel) (by decide) (sh_ok hG (by decide +kernel)) ?_
      refine e_L (L' := [some (aR 2)]) (st' := [aR 2]) (show decode (mC 98) 47 = .ok (.aload_n 0, 1) by decide +kernel) rfl (by show (if 2 = 0 then none else some (_, _)) = _; rw [if_neg (by decide)]) ?_
      refine e_L (L' := [some (aR 2)]) (st' := [aR 2, aR 2]) (show decode (mC 98) 48 = .ok (.aload_n 0, 1) by decide +kernel) rfl (by show (if 2 = 0 then none else some (_, _)) = _; rw [if_neg (by decide)]) ?_
      refine e_getR (w := 7) (show decode (mC 98) 49 = .ok (.getfield 29, 3) by decide +kernel) (show pl 10 29 = some (0, 10, 5, 0) by decide +kernel) (by decide) (sh_ok hG (by decide +kernel)) (sh_rf hG (by decide +kernel)) ?_
      refine e_L (L' := [some (aR 2)]) (st' := [aR 2, aR 7, aR 2]) (show decode (mC 98) 52 = .ok (.aload_n 0, 1) by decide +kernel) rfl (by show (if 2 = 0 then none else some (_, _)) = _; rw [if_neg (by decide)]) ?_
      refine e_getIx (show decode (mC 98) 53 = .ok (.getfield 67, 3) by decide +kernel) (show pl 10 67 = some (0, 10, 8, 0) by decide +kernel) (by decide) (sh_ok hG (by decide +kernel)) ex8 ?_
      refine e_ialdx (n := 941) (show decode (mC 98) 56 = .ok (.iaload, 1) by decide +kernel) (sh_ok hG (by decide +kernel)) (sh_ln hG (by decide +kernel)) (by decide) (s17 p1 p2) (s18 p1 p2) ex9 ?_
      refine e_putI (show decode (mC 98) 57 = .ok (.putfield 87, 3) by decide +kernel) (show pl 10 87 = some (0, 10, 12, 0) by decide +kernel) (by decide) (sh_ok hG (by decide +kernel)) ?_
      refine e_L (L' := [some (aR 2)]) (st' := [aR 2]) (show decode (mC 98) 60 = .ok (.aload_n 0, 1) by decide +kernel) rfl (by show (if 2 = 0 then none else some (_, _)) = _; rw [if_neg (by decide)]) ?_
      refine e_L (L' := [some (aR 2)]) (st' := [aR 2, aR 2]) (show decode (mC 98) 61 = .ok (.aload_n 0, 1) by decide +kernel) rfl (by show (if 2 = 0 then none else some (_, _)) = _; rw [if_neg (by decide)]) ?_
      refine e_getR (w := 8) (show decode (mC 98) 62 = .ok (.getfield 32, 3) by decide +kernel) (show pl 10 32 = some (0, 10, 6, 0) by decide +kernel) (by decide) (sh_ok hG (by decide +kernel)) (sh_rf hG (by decide +kernel)) ?_
      refine e_L (L' := [some (aR 2)]) (st' := [aR 2, aR 8, aR 2]) (show decode (mC 98) 65 = .ok (.aload_n 0, 1) by decide +kernel) rfl (by show (if 2 = 0 then none else some (_, _)) = _; rw [if_neg (by decide)]) ?_
      refine e_getIx (show decode (mC 98) 66 = .ok (.getfield 67, 3) by decide +kernel) (show pl 10 67 = some (0, 10, 8, 0) by decide +kernel) (by decide) (sh_ok hG (by decide +kernel)) ex10 ?_
      refine e_laldx (n := 941) (show decode (mC 98) 69 = .ok (.laload, 1) by decide +kernel) (sh_ok hG (by decide +kernel)) (sh_ln hG (by decide +kernel)) (by decide) (s21 p1 p2) (s22 p1 p2) ex11 ?_
      refine e_putL (show decode (mC 98) 70 = .ok (.putfield 90, 3) by decide +kernel) (show pl 10 90 = some (0, 10, 13, 0) by decide +kernel) (by decide) (sh_ok hG (by decide +kernel)) ?_
      refine e_L (L' := [some (aR 2)]) (st' := [aR 2]) (show decode (mC 98) 73 = .ok (.aload_n 0, 1) by decide +kernel) rfl (by show (if 2 = 0 then none else some (_, _)) = _; rw [if_neg (by decide)]) ?_
      refine e_P (st' := [aR 2, aR 2]) (show decode (mC 98) 74 = .ok (.dup, 1) by decide +kernel) rfl rfl rfl ?_
      refine e_getIx (show decode (mC 98) 75 = .ok (.getfield 67, 3) by decide +kernel) (show pl 10 67 = some (0, 10, 8, 0) by decide +kernel) (by decide) (sh_ok hG (by decide +kernel)) ex12 ?_
      refine e_P (st' := [aI 1, aI x12, aR 2]) (show decode (mC 98) 78 = .ok (.iconst 1, 1) by decide +kernel) rfl rfl rfl ?_
      refine e_P (st' := [aI (x12 + 1), aR 2]) (show decode (mC 98) 79 = .ok (.iadd, 1) by decide +kernel) rfl rfl rfl ?_
      refine e_putI (show decode (mC 98) 80 = .ok (.putfield 67, 3) by decide +kernel) (show pl 10 67 = some (0, 10, 8, 0) by decide +kernel) (by decide) (sh_ok hG (by decide +kernel)) ?_
      exact e_vret (show decode (mC 98) 83 = .ok (.return_, 1) by decide +kernel) rfl (z25 p1 p2)
end QB0
