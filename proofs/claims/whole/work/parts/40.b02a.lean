section QB10
variable {d : Nat} {G : GG} {c : CC} {Q : OO → HH → Prop}
/-- SoulOffice$History.clear()V, from 0 -/
theorem b13_0 (hG : Shp G)
    (z0 : Q (.inl none) (G, (q_up c 53 1 0))) :
    T d 13 0 [some (aR 53)] [] (G, c) Q := by
  refine e_L (L' := [some (aR 53)]) (st' := [aR 53]) (show decode (mC 13) 0 = .ok (.aload_n 0, 1) by decide +kernel) rfl (by show (if 53 = 0 then none else some (_, _)) = _; rw [if_neg (by decide)]) ?_
  refine e_P (st' := [aI 0, aR 53]) (show decode (mC 13) 1 = .ok (.iconst 0, 1) by decide +kernel) rfl rfl rfl ?_
  refine e_putI (show decode (mC 13) 2 = .ok (.putfield 20, 3) by decide +kernel) (show pl 2 20 = some (0, 2, 1, 0) by decide +kernel) (by decide) (sh_ok hG (by decide +kernel)) ?_
  exact e_vret (show decode (mC 13) 5 = .ok (.return_, 1) by decide +kernel) rfl z0
/-- SoulOffice$History.keep(LSoulOffice$Life;)V, from 0 -/
theorem b14_0 (hG : Shp G) {x1 : Int} {a : Nat} (h_a : Life a) {w1 : Nat} (h_w1 : Life w1) (hQ : ∀ o o' h', q_eqo o o' → Q o h' → Q o' h')
    (ex1 : c 53 2 = x1)
    (s1 : 0 ≤ x1)
    (s2 : x1 < 8)
    (hw1 : rfR G 54 ((x1 : Int)).toNat w1)
    (m4 : TM d 21 [aR w1, aR a] (G, c) (fun r h' => T (d + 1) 14 19 [some (aR 53), none, none] (r.toList ++ []) h' Q)) :
    T (d + 1) 14 0 [some (aR 53), some (aR a), none] [] (G, c) Q := by
  refine e_L (L' := [some (aR 53), some (aR a), none]) (st' := [aR 53]) (show decode (mC 14) 0 = .ok (.aload_n 0, 1) by decide +kernel) rfl (by show (if 53 = 0 then none else some (_, _)) = _; rw [if_neg (by decide)]) ?_
  refine e_getR (w := 54) (show decode (mC 14) 1 = .ok (.getfield 11, 3) by decide +kernel) (show pl 2 11 = some (0, 2, 0, 0) by decide +kernel) (by decide) (sh_ok hG (by decide +kernel)) (sh_rf hG (by decide +kernel)) ?_
  refine e_L (L' := [some (aR 53), some (aR a), none]) (st' := [aR 53, aR 54]) (show decode (mC 14) 4 = .ok (.aload_n 0, 1) by decide +kernel) rfl (by show (if 53 = 0 then none else some (_, _)) = _; rw [if_neg (by decide)]) ?_
  refine e_getIx (show decode (mC 14) 5 = .ok (.getfield 24, 3) by decide +kernel) (show pl 2 24 = some (0, 2, 2, 0) by decide +kernel) (by decide) (sh_ok hG (by decide +kernel)) ex1 ?_
  refine e_aald (n := 8) (w := w1) (show decode (mC 14) 8 = .ok (.aaload, 1) by decide +kernel) (Or.inl (sh_ok hG (by decide +kernel))) (sh_ln hG (by decide +kernel)) (by decide) s1 s2 hw1 ?_
  refine e_L (L' := [some (aR 53), some (aR a), some (aR w1)]) (st' := []) (show decode (mC 14) 9 = .ok (.astore_n 2, 1) by decide +kernel) rfl (by show (if w1 = 0 then none else _) = _; rw [if_neg (show ¬ w1 = 0 from lf_ne h_w1 0)]; rfl) ?_
  refine e_L (L' := [some (aR 53), some (aR a), some (aR w1)]) (st' := [aR w1]) (show decode (mC 14) 10 = .ok (.aload_n 2, 1) by decide +kernel) rfl (by show (if w1 = 0 then none else some (_, _)) = _; rw [if_neg (show ¬ w1 = 0 from lf_ne h_w1 0)]) ?_
  refine e_nul (show decode (mC 14) 11 = .ok (.ifnull 36, 3) by decide +kernel) (show ¬ w1 = 0 from lf_ne h_w1 0) ?_
  refine e_L (L' := [some (aR 53), some (aR a), some (aR w1)]) (st' := [aR w1]) (show decode (mC 14) 14 = .ok (.aload_n 2, 1) by decide +kernel) rfl (by show (if w1 = 0 then none else some (_, _)) = _; rw [if_neg (show ¬ w1 = 0 from lf_ne h_w1 0)]) ?_
  refine e_L (L' := [some (aR 53), some (aR a), some (aR w1)]) (st' := [aR a, aR w1]) (show decode (mC 14) 15 = .ok (.aload_n 1, 1) by decide +kernel) rfl (by show (if a = 0 then none else some (_, _)) = _; rw [if_neg (show ¬ a = 0 from lf_ne h_a 0)]) ?_
  exact e_V (as := [aR w1, aR a]) (rest := []) (show decode (mC 14) 16 = .ok (.invokevirtual 27, 3) by decide +kernel) (by decide +kernel) (show (decide ((2 : Nat) = mA 21) && decide (21 < q_law)) = true by decide +kernel) rfl (show (0 : Nat) ≤ 8 by decide) (show (2 : Nat) ≤ mL 21 by decide +kernel) rfl (lf_ok hG h_w1 0 (by decide)) (tm_le hQ (leS (leN (leN leE))) m4)
/-- SoulOffice$History.keep(LSoulOffice$Life;)V, from 19 -/
theorem b14_19 (hG : Shp G) {x1 x2 : Int}
    (ex1 : c 53 2 = x1)
    (ex2 : (q_up c 53 2 (q_rem (x1 + 1) 8)) 53 1 = x2)
    (s2 : -2147483648 ≤ (x2 + 1) ∧ (x2 + 1) < 2147483648)
    (z3 : Q (.inl none) (G, (q_up (q_up c 53 2 (q_rem (x1 + 1) 8)) 53 1 (if 8 < (x2 + 1) then 8 else (x2 + 1))))) :
    T (d + 1) 14 19 [some (aR 53), none, none] [] (G, c) Q := by
  refine e_L (L' := [some (aR 53), none, none]) (st' := [aR 53]) (show decode (mC 14) 19 = .ok (.aload_n 0, 1) by decide +kernel) rfl (by show (if 53 = 0 then none else some (_, _)) = _; rw [if_neg (by decide)]) ?_
  refine e_L (L' := [some (aR 53), none, none]) (st' := [aR 53, aR 53]) (show decode (mC 14) 20 = .ok (.aload_n 0, 1) by decide +kernel) rfl (by show (if 53 = 0 then none else some (_, _)) = _; rw [if_neg (by decide)]) ?_
  refine e_getIx (show decode (mC 14) 21 = .ok (.getfield 24, 3) by decide +kernel) (show pl 2 24 = some (0, 2, 2, 0) by decide +kernel) (by decide) (sh_ok hG (by decide +kernel)) ex1 ?_
  refine e_P (st' := [aI 1, aI x1, aR 53]) (show decode (mC 14) 24 = .ok (.iconst 1, 1) by decide +kernel) rfl rfl rfl ?_
  refine e_P (st' := [aI (x1 + 1), aR 53]) (show decode (mC 14) 25 = .ok (.iadd, 1) by decide +kernel) rfl rfl rfl ?_
  refine e_P (st' := [aI 8, aI (x1 + 1), aR 53]) (show decode (mC 14) 26 = .ok (.bipush 8, 2) by decide +kernel) rfl rfl rfl ?_
  refine e_irem (show decode (mC 14) 28 = .ok (.irem, 1) by decide +kernel) (by decide) ?_
  refine e_putI (show decode (mC 14) 29 = .ok (.putfield 24, 3) by decide +kernel) (show pl 2 24 = some (0, 2, 2, 0) by decide +kernel) (by decide) (sh_ok hG (by decide +kernel)) ?_
  refine e_L (L' := [some (aR 53), none, none]) (st' := [aR 53]) (show decode (mC 14) 32 = .ok (.aload_n 0, 1) by decide +kernel) rfl (by show (if 53 = 0 then none else some (_, _)) = _; rw [if_neg (by decide)]) ?_
  refine e_L (L' := [some (aR 53), none, none]) (st' := [aR 53, aR 53]) (show decode (mC 14) 33 = .ok (.aload_n 0, 1) by decide +kernel) rfl (by show (if 53 = 0 then none else some (_, _)) = _; rw [if_neg (by decide)]) ?_
  refine e_getIx (show decode (mC 14) 34 = .ok (.getfield 20, 3) by decide +kernel) (show pl 2 20 = some (0, 2, 1, 0) by decide +kernel) (by decide) (sh_ok hG (by decide +kernel)) ex2 ?_
  refine e_P (st' := [aI 1, aI x2, aR 53]) (show decode (mC 14) 37 = .ok (.iconst 1, 1) by decide +kernel) rfl rfl rfl ?_
  refine e_P (st' := [aI (x2 + 1), aR 53]) (show decode (mC 14) 38 = .ok (.iadd, 1) by decide +kernel) rfl rfl rfl ?_
  refine e_P (st' := [aI 8, aI (x2 + 1), aR 53]) (show decode (mC 14) 39 = .ok (.bipush 8, 2) by decide +kernel) rfl rfl rfl ?_
  refine e_min (show decode (mC 14) 41 = .ok (.invokestatic 31, 3) by decide +kernel) (show pl 2 31 = some (16, 0, 0, 0) by decide +kernel) s2 (by decide) (show (1 : Nat) ≤ 20 by decide) ?_
  refine e_putI (show decode (mC 14) 44 = .ok (.putfield 20, 3) by decide +kernel) (show pl 2 20 = some (0, 2, 1, 0) by decide +kernel) (by decide) (sh_ok hG (by decide +kernel)) ?_
  exact e_vret (show decode (mC 14) 47 = .ok (.return_, 1) by decide +kernel) rfl z3
/-- SoulOffice$History.takeBack(LSoulOffice$Life;)I, from 0 -/
theorem b15_0 (hG : Shp G) {x1 x2 x3 x4 : Int} {a : Nat} (h_a : Life a) {w1 : Nat} (h_w1 : Life w1) (hQ : ∀ o o' h', q_eqo o o' → Q o h' → Q o' h')
    (ex1 : c 53 1 = x1)
    (s1 : -2147483648 ≤ x1 ∧ x1 < 2147483648)
    (ex2 : c 53 2 = x2)
    (ex3 : (q_up c 53 2 (q_rem ((x2 + 8) - 1) 8)) 53 1 = x3)
    (ex4 : (q_up (q_up c 53 2 (q_rem ((x2 + 8) - 1) 8)) 53 1 (x3 - 1)) 53 2 = x4)
    (s5 : (1 ≤ x1) → 0 ≤ x4)
    (s6 : (1 ≤ x1) → x4 < 8)
    (hw1 : rfR G 54 ((x4 : Int)).toNat w1)
    (m8 : (1 ≤ x1) → TM d 21 [aR a, aR w1] (G, (q_up (q_up c 53 2 (q_rem ((x2 + 8) - 1) 8)) 53 1 (x3 - 1))) (fun r h' => T (d + 1) 15 55 [some (aR 53), none, none] (r.toList ++ []) h' Q))
    (z9 : (x1 < 1) → Q (.inl (some (aI (-1)))) (G, c)) :
    T (d + 1) 15 0 [some (aR 53), some (aR a), none] [] (G, c) Q := by
  refine e_L (L' := [some (aR 53), some (aR a), none]) (st' := [aR 53]) (show decode (mC 15) 0 = .ok (.aload_n 0, 1) by decide +kernel) rfl (by show (if 53 = 0 then none else some (_, _)) = _; rw [if_neg (by decide)]) ?_
  refine e_getIx (show decode (mC 15) 1 = .ok (.getfield 20, 3) by decide +kernel) (show pl 2 20 = some (0, 2, 1, 0) by decide +kernel) (by decide) (sh_ok hG (by decide +kernel)) ex1 ?_
  refine e_P (st' := [aI 1, aI x1]) (show decode (mC 15) 4 = .ok (.iconst 1, 1) by decide +kernel) rfl rfl rfl ?_
  refine e_ge2 (t := 10) (show decode (mC 15) 5 = .ok (.if_icmp .ge 5, 3) by decide +kernel) (by decide) s1 (by decide) (fun p1 => ?_) (fun p1 => ?_)
  · refine e_L (L' := [some (aR 53), some (aR a), none]) (st' := [aR 53]) (show decode (mC 15) 10 = .ok (.aload_n 0, 1) by decide +kernel) rfl (by show (if 53 = 0 then none else some (_, _)) = _; rw [if_neg (by decide)]) ?_
    refine e_L (L' := [some (aR 53), some (aR a), none]) (st' := [aR 53, aR 53]) (show decode (mC 15) 11 = .ok (.aload_n 0, 1) by decide +kernel) rfl (by show (if 53 = 0 then none else some (_, _)) = _; rw [if_neg (by decide)]) ?_
    refine e_getIx (show decode (mC 15) 12 = .ok (.getfield 24, 3) by decide +kernel) (show pl 2 24 = some (0, 2, 2, 0) by decide +kernel) (by decide) (sh_ok hG (by decide +kernel)) ex2 ?_
    refine e_P (st' := [aI 8, aI x2, aR 53]) (show decode (mC 15) 15 = .ok (.bipush 8, 2) by decide +kernel) rfl rfl rfl ?_
    refine e_P (st' := [aI (x2 + 8), aR 53]) (show decode (mC 15) 17 = .ok (.iadd, 1) by decide +kernel) rfl rfl rfl ?_
    refine e_P (st' := [aI 1, aI (x2 + 8), aR 53]) (show decode (mC 15) 18 = .ok (.iconst 1, 1) by decide +kernel) rfl rfl rfl ?_
    refine e_P (st' := [aI ((x2 + 8) - 1), aR 53]) (show decode (mC 15) 19 = .ok (.isub, 1) by decide +kernel) rfl rfl rfl ?_
    refine e_P (st' := [aI 8, aI ((x2 + 8) - 1), aR 53]) (show decode (mC 15) 20 = .ok (.bipush 8, 2) by decide +kernel) rfl rfl rfl ?_
    refine e_irem (show decode (mC 15) 22 = .ok (.irem, 1) by decide +kernel) (by decide) ?_
    refine e_putI (show decode (mC 15) 23 = .ok (.putfield 24, 3) by decide +kernel) (show pl 2 24 = some (0, 2, 2, 0) by decide +kernel) (by decide) (sh_ok hG (by decide +kernel)) ?_
    refine e_L (L' := [some (aR 53), some (aR a), none]) (st' := [aR 53]) (show decode (mC 15) 26 = .ok (.aload_n 0, 1) by decide +kernel) rfl (by show (if 53 = 0 then none else some (_, _)) = _; rw [if_neg (by decide)]) ?_
    refine e_P (st' := [aR 53, aR 53]) (show decode (mC 15) 27 = .ok (.dup, 1) by decide +kernel) rfl rfl rfl ?_
    refine e_getIx (show decode (mC 15) 28 = .ok (.getfield 20, 3) by decide +kernel) (show pl 2 20 = some (0, 2, 1, 0) by decide +kernel) (by decide) (sh_ok hG (by decide +kernel)) ex3 ?_
    refine e_P (st' := [aI 1, aI x3, aR 53]) (show decode (mC 15) 31 = .ok (.iconst 1, 1) by decide +kernel) rfl rfl rfl ?_
    refine e_P (st' := [aI (x3 - 1), aR 53]) (show decode (mC 15) 32 = .ok (.isub, 1) by decide +kernel) rfl rfl rfl ?_
    refine e_putI (show decode (mC 15) 33 = .ok (.putfield 20, 3) by decide +kernel) (show pl 2 20 = some (0, 2, 1, 0) by decide +kernel) (by decide) (sh_ok hG (by decide +kernel)) ?_
    refine e_L (L' := [some (aR 53), some (aR a), none]) (st' := [aR 53]) (show decode (mC 15) 36 = .ok (.aload_n 0, 1) by decide +kernel) rfl (by show (if 53 = 0 then none else some (_, _)) = _; rw [if_neg (by decide)]) ?_
    refine e_getR (w := 54) (show decode (mC 15) 37 = .ok (.getfield 11, 3) by decide +kernel) (show pl 2 11 = some (0, 2, 0, 0) by decide +kernel) (by decide) (sh_ok hG (by decide +kernel)) (sh_rf hG (by decide +kernel)) ?_
    refine e_L (L' := [some (aR 53), some (aR a), none]) (st' := [aR 53, aR 54]) (show decode (mC 15) 40 = .ok (.aload_n 0, 1) by decide +kernel) rfl (by show (if 53 = 0 then none else some (_, _)) = _; rw [if_neg (by decide)]) ?_
    refine e_getIx (show decode (mC 15) 41 = .ok (.getfield 24, 3) by decide +kernel) (show pl 2 24 = some (0, 2, 2, 0) by decide +kernel) (by decide) (sh_ok hG (by decide +kernel)) ex4 ?_
    refine e_aald (n := 8) (w := w1) (show decode (mC 15) 44 = .ok (.aaload, 1) by decide +kernel) (Or.inl (sh_ok hG (by decide +kernel))) (sh_ln hG (by decide +kernel)) (by decide) (s5 p1) (s6 p1) hw1 ?_
    refine e_L (L' := [some (aR 53), some (aR a), some (aR w1)]) (st' := []) (show decode (mC 15) 45 = .ok (.astore_n 2, 1) by decide +kernel) rfl (by show (if w1 = 0 then none else _) = _; rw [if_neg (show ¬ w1 = 0 from lf_ne h_w1 0)]; rfl) ?_
    refine e_L (L' := [some (aR 53), some (aR a), some (aR w1)]) (st' := [aR w1]) (show decode (mC 15) 46 = .ok (.aload_n 2, 1) by decide +kernel) rfl (by show (if w1 = 0 then none else some (_, _)) = _; rw [if_neg (show ¬ w1 = 0 from lf_ne h_w1 0)]) ?_
    refine e_nul (show decode (mC 15) 47 = .ok (.ifnull 8, 3) by decide +kernel) (show ¬ w1 = 0 from lf_ne h_w1 0) ?_
    refine e_L (L' := [some (aR 53), some (aR a), some (aR w1)]) (st' := [aR a]) (show decode (mC 15) 50 = .ok (.aload_n 1, 1) by decide +kernel) rfl (by show (if a = 0 then none else some (_, _)) = _; rw [if_neg (show ¬ a = 0 from lf_ne h_a 0)]) ?_
    refine e_L (L' := [some (aR 53), some (aR a), some (aR w1)]) (st' := [aR w1, aR a]) (show decode (mC 15) 51 = .ok (.aload_n 2, 1) by decide +kernel) rfl (by show (if w1 = 0 then none else some (_, _)) = _; rw [if_neg (show ¬ w1 = 0 from lf_ne h_w1 0)]) ?_
    exact e_V (as := [aR a, aR w1]) (rest := []) (show decode (mC 15) 52 = .ok (.invokevirtual 27, 3) by decide +kernel) (by decide +kernel) (show (decide ((2 : Nat) = mA 21) && decide (21 < q_law)) = true by decide +kernel) rfl (show (0 : Nat) ≤ 8 by decide) (show (2 : Nat) ≤ mL 21 by decide +kernel) rfl (lf_ok hG h_a 0 (by decide)) (tm_le hQ (leS (leN (leN leE))) (m8 p1))
  · refine e_P (st' := [aI (-1)]) (show decode (mC 15) 8 = .ok (.iconst (-1), 1) by decide +kernel) rfl rfl rfl ?_
    exact e_iret (show decode (mC 15) 9 = .ok (.ireturn, 1) by decide +kernel) rfl (z9 p1)
/-- SoulOffice$History.takeBack(LSoulOffice$Life;)I, from 55 -/
theorem b15_55 (hG : Shp G) {x1 : Int}
    (ex1 : c 53 1 = x1)
    (z1 : Q (.inl (some (aI x1))) (G, c)) :
    T (d + 1) 15 55 [some (aR 53), none, none] [] (G, c) Q := by
  refine e_L (L' := [some (aR 53), none, none]) (st' := [aR 53]) (show decode (mC 15) 55 = .ok (.aload_n 0, 1) by decide +kernel) rfl (by show (if 53 = 0 then none else some (_, _)) = _; rw [if_neg (by decide)]) ?_
  refine e_getIx (show decode (mC 15) 56 = .ok (.getfield 20, 3) by decide +kernel) (show pl 2 20 = some (0, 2, 1, 0) by decide +kernel) (by decide) (sh_ok hG (by decide +kernel)) ex1 ?_
  exact e_iret (show decode (mC 15) 59 = .ok (.ireturn, 1) by decide +kernel) rfl z1
end QB10
