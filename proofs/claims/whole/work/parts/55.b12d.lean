section QB25
variable {d : Nat} {G : GG} {c : CC} {Q : OO → HH → Prop}
/-- SoulOfficeModel.line()Z, from 686 -/
theorem b184_686 (hG : Shp G) {u0 : Int}
    (s0 : u0 = 0 ∨ u0 = 1)
    (z1 : Q (.inl (some (aI u0))) (G, c)) :
    T (d + 1) 184 686 [none, none, none] [aI u0] (G, c) Q := by
  exact e_zret (show decode (mC 184) 686 = .ok (.ireturn, 1) by decide +kernel) rfl s0 z1
/-- SoulOfficeModel.line()Z, from 699 -/
theorem b184_699 (hG : Shp G) {u0 : Int}
    (s0 : u0 = 0 ∨ u0 = 1)
    (z1 : Q (.inl (some (aI u0))) (G, c)) :
    T (d + 1) 184 699 [none, none, none] [aI u0] (G, c) Q := by
  exact e_zret (show decode (mC 184) 699 = .ok (.ireturn, 1) by decide +kernel) rfl s0 z1
/-- SoulOfficeModel.line()Z, from 709 -/
theorem b184_709 (hG : Shp G)
    (m0 : TM d 178 [aR 188, aI 0, aI 9] (G, c) (fun r h' => T (d + 1) 184 716 [some (aR 188), none, none] (r.toList ++ []) h' Q)) :
    T (d + 1) 184 709 [some (aR 188), none, none] [] (G, c) Q := by
  refine e_L (L' := [some (aR 188), none, none]) (st' := [aR 188]) (show decode (mC 184) 709 = .ok (.aload_n 0, 1) by decide +kernel) rfl (by show (if 188 = 0 then none else some (_, _)) = _; rw [if_neg (by decide)]) ?_
  refine e_P (st' := [aI 0, aR 188]) (show decode (mC 184) 710 = .ok (.iconst 0, 1) by decide +kernel) rfl rfl rfl ?_
  refine e_P (st' := [aI 9, aI 0, aR 188]) (show decode (mC 184) 711 = .ok (.bipush 9, 2) by decide +kernel) rfl rfl rfl ?_
  exact e_V (as := [aR 188, aI 0, aI 9]) (rest := []) (show decode (mC 184) 713 = .ok (.invokevirtual 210, 3) by decide +kernel) (by decide +kernel) (show (decide ((3 : Nat) = mA 178) && decide (178 < q_law)) = true by decide +kernel) rfl (show (0 : Nat) ≤ 8 by decide) (show (3 : Nat) ≤ mL 178 by decide +kernel) rfl (sh_ok hG (by decide +kernel)) m0
/-- SoulOfficeModel.line()Z, from 716 -/
theorem b184_716 (hG : Shp G) {u0 x1 : Int}
    (s0 : -2147483648 ≤ u0 ∧ u0 < 2147483648)
    (ex1 : c 188 18 = x1)
    (z2 : (¬ u0 = 0) → Q (.inl (some (aI 1))) (G, (q_up c 191 2 x1)))
    (z3 : (u0 = 0) → Q (.inl (some (aI 0))) (G, c)) :
    T (d + 1) 184 716 [some (aR 188), none, none] [aI u0] (G, c) Q := by
  refine e_ne1 (t := 721) (show decode (mC 184) 716 = .ok (.ifCond .ne 5, 3) by decide +kernel) (by decide) s0 (fun p1 => ?_) (fun p1 => ?_)
  · refine e_L (L' := [some (aR 188), none, none]) (st' := [aR 188]) (show decode (mC 184) 721 = .ok (.aload_n 0, 1) by decide +kernel) rfl (by show (if 188 = 0 then none else some (_, _)) = _; rw [if_neg (by decide)]) ?_
    refine e_getR (w := 191) (show decode (mC 184) 722 = .ok (.getfield 37, 3) by decide +kernel) (show pl 12 37 = some (0, 12, 7, 0) by decide +kernel) (by decide) (sh_ok hG (by decide +kernel)) (sh_rf hG (by decide +kernel)) ?_
    refine e_P (st' := [aI 2, aR 191]) (show decode (mC 184) 725 = .ok (.iconst 2, 1) by decide +kernel) rfl rfl rfl ?_
    refine e_L (L' := [some (aR 188), none, none]) (st' := [aR 188, aI 2, aR 191]) (show decode (mC 184) 726 = .ok (.aload_n 0, 1) by decide +kernel) rfl (by show (if 188 = 0 then none else some (_, _)) = _; rw [if_neg (by decide)]) ?_
    refine e_getIx (show decode (mC 184) 727 = .ok (.getfield 188, 3) by decide +kernel) (show pl 12 188 = some (0, 12, 18, 0) by decide +kernel) (by decide) (sh_ok hG (by decide +kernel)) ex1 ?_
    refine e_iast (n := 168) (show decode (mC 184) 730 = .ok (.iastore, 1) by decide +kernel) (sh_ok hG (by decide +kernel)) (sh_ln hG (by decide +kernel)) (by decide) (by decide) (by decide) ?_
    refine e_P (st' := [aI 1]) (show decode (mC 184) 731 = .ok (.iconst 1, 1) by decide +kernel) rfl rfl rfl ?_
    exact e_zret (show decode (mC 184) 732 = .ok (.ireturn, 1) by decide +kernel) rfl (by decide) (z2 p1)
  · refine e_P (st' := [aI 0]) (show decode (mC 184) 719 = .ok (.iconst 0, 1) by decide +kernel) rfl rfl rfl ?_
    exact e_zret (show decode (mC 184) 720 = .ok (.ireturn, 1) by decide +kernel) rfl (by decide) (z3 p1)
/-- SoulOfficeModel.office()I, from 0 -/
theorem b185_0 (hG : Shp G)
    (m0 : TM d 163 [aR 188, aI 900] (G, (q_up c 188 0 0)) (fun r h' => T (d + 1) 185 12 [some (aR 188), none] (r.toList ++ []) h' Q)) :
    T (d + 1) 185 0 [some (aR 188), none] [] (G, c) Q := by
  refine e_L (L' := [some (aR 188), none]) (st' := [aR 188]) (show decode (mC 185) 0 = .ok (.aload_n 0, 1) by decide +kernel) rfl (by show (if 188 = 0 then none else some (_, _)) = _; rw [if_neg (by decide)]) ?_
  refine e_P (st' := [aI 0, aR 188]) (show decode (mC 185) 1 = .ok (.iconst 0, 1) by decide +kernel) rfl rfl rfl ?_
  refine e_putI (show decode (mC 185) 2 = .ok (.putfield 1, 3) by decide +kernel) (show pl 12 1 = some (0, 12, 0, 0) by decide +kernel) (by decide) (sh_ok hG (by decide +kernel)) ?_
  refine e_L (L' := [some (aR 188), none]) (st' := [aR 188]) (show decode (mC 185) 5 = .ok (.aload_n 0, 1) by decide +kernel) rfl (by show (if 188 = 0 then none else some (_, _)) = _; rw [if_neg (by decide)]) ?_
  refine e_P (st' := [aI 900, aR 188]) (show decode (mC 185) 6 = .ok (.sipush 900, 3) by decide +kernel) rfl rfl rfl ?_
  exact e_V (as := [aR 188, aI 900]) (rest := []) (show decode (mC 185) 9 = .ok (.invokevirtual 226, 3) by decide +kernel) (by decide +kernel) (show (decide ((2 : Nat) = mA 163) && decide (163 < q_law)) = true by decide +kernel) rfl (show (0 : Nat) ≤ 8 by decide) (show (2 : Nat) ≤ mL 163 by decide +kernel) rfl (sh_ok hG (by decide +kernel)) m0
/-- SoulOfficeModel.office()I, from 12 -/
theorem b185_12 (hG : Shp G)
    (k0 : T (d + 1) 185 29 [some (aR 188), some (aI 0)] [] (G, (q_up (q_up (q_up c 188 15 0) 188 19 0) 188 20 0)) Q) :
    T (d + 1) 185 12 [some (aR 188), none] [] (G, c) Q := by
  refine e_L (L' := [some (aR 188), none]) (st' := [aR 188]) (show decode (mC 185) 12 = .ok (.aload_n 0, 1) by decide +kernel) rfl (by show (if 188 = 0 then none else some (_, _)) = _; rw [if_neg (by decide)]) ?_
  refine e_P (st' := [aI 0, aR 188]) (show decode (mC 185) 13 = .ok (.iconst 0, 1) by decide +kernel) rfl rfl rfl ?_
  refine e_putI (show decode (mC 185) 14 = .ok (.putfield 169, 3) by decide +kernel) (show pl 12 169 = some (0, 12, 15, 0) by decide +kernel) (by decide) (sh_ok hG (by decide +kernel)) ?_
  refine e_L (L' := [some (aR 188), none]) (st' := [aR 188]) (show decode (mC 185) 17 = .ok (.aload_n 0, 1) by decide +kernel) rfl (by show (if 188 = 0 then none else some (_, _)) = _; rw [if_neg (by decide)]) ?_
  refine e_P (st' := [aI 0, aR 188]) (show decode (mC 185) 18 = .ok (.iconst 0, 1) by decide +kernel) rfl rfl rfl ?_
  refine e_putI (show decode (mC 185) 19 = .ok (.putfield 229, 3) by decide +kernel) (show pl 12 229 = some (0, 12, 19, 0) by decide +kernel) (by decide) (sh_ok hG (by decide +kernel)) ?_
  refine e_L (L' := [some (aR 188), none]) (st' := [aR 188]) (show decode (mC 185) 22 = .ok (.aload_n 0, 1) by decide +kernel) rfl (by show (if 188 = 0 then none else some (_, _)) = _; rw [if_neg (by decide)]) ?_
  refine e_P (st' := [aI 0, aR 188]) (show decode (mC 185) 23 = .ok (.iconst 0, 1) by decide +kernel) rfl rfl rfl ?_
  refine e_putZ (show decode (mC 185) 24 = .ok (.putfield 222, 3) by decide +kernel) (show pl 12 222 = some (0, 12, 20, 0) by decide +kernel) (by decide) (sh_ok hG (by decide +kernel)) (by decide) ?_
  refine e_P (st' := [aI 0]) (show decode (mC 185) 27 = .ok (.iconst 0, 1) by decide +kernel) rfl rfl rfl ?_
  refine e_L (L' := [some (aR 188), some (aI 0)]) (st' := []) (show decode (mC 185) 28 = .ok (.istore_n 1, 1) by decide +kernel) rfl rfl ?_
  exact k0
/-- SoulOfficeModel.office()I, from 29 -/
theorem b185_29 (hG : Shp G) {v1 : Int} (hQ : ∀ o o' h', q_eqo o o' → Q o h' → Q o' h')
    (s0 : -2147483648 ≤ v1 ∧ v1 < 2147483648)
    (m1 : (168 ≤ v1) → TM d 172 [aR 188] (G, c) (fun r h' => T (d + 1) 185 53 [some (aR 188), none] (r.toList ++ []) h' Q))
    (s2 : (v1 < 168) → 0 ≤ v1)
    (s3 : (v1 < 168) → v1 < 168)
    (k4 : (v1 < 168) → T (d + 1) 185 29 [some (aR 188), some (aI (v1 + 1))] [] (G, (q_up c 191 v1 0)) Q) :
    T (d + 1) 185 29 [some (aR 188), some (aI v1)] [] (G, c) Q := by
  refine e_L (L' := [some (aR 188), some (aI v1)]) (st' := [aI v1]) (show decode (mC 185) 29 = .ok (.iload_n 1, 1) by decide +kernel) rfl rfl ?_
  refine e_P (st' := [aI 168, aI v1]) (show decode (mC 185) 30 = .ok (.sipush 168, 3) by decide +kernel) rfl rfl rfl ?_
  refine e_ge2 (t := 49) (show decode (mC 185) 33 = .ok (.if_icmp .ge 16, 3) by decide +kernel) (by decide) s0 (by decide) (fun p1 => ?_) (fun p1 => ?_)
  · refine e_L (L' := [some (aR 188), some (aI v1)]) (st' := [aR 188]) (show decode (mC 185) 49 = .ok (.aload_n 0, 1) by decide +kernel) rfl (by show (if 188 = 0 then none else some (_, _)) = _; rw [if_neg (by decide)]) ?_
    exact e_V (as := [aR 188]) (rest := []) (show decode (mC 185) 50 = .ok (.invokevirtual 181, 3) by decide +kernel) (by decide +kernel) (show (decide ((1 : Nat) = mA 172) && decide (172 < q_law)) = true by decide +kernel) rfl (show (0 : Nat) ≤ 8 by decide) (show (1 : Nat) ≤ mL 172 by decide +kernel) rfl (sh_ok hG (by decide +kernel)) (tm_le hQ (leS (leN leE)) (m1 p1))
  · refine e_L (L' := [some (aR 188), some (aI v1)]) (st' := [aR 188]) (show decode (mC 185) 36 = .ok (.aload_n 0, 1) by decide +kernel) rfl (by show (if 188 = 0 then none else some (_, _)) = _; rw [if_neg (by decide)]) ?_
    refine e_getR (w := 191) (show decode (mC 185) 37 = .ok (.getfield 37, 3) by decide +kernel) (show pl 12 37 = some (0, 12, 7, 0) by decide +kernel) (by decide) (sh_ok hG (by decide +kernel)) (sh_rf hG (by decide +kernel)) ?_
    refine e_L (L' := [some (aR 188), some (aI v1)]) (st' := [aI v1, aR 191]) (show decode (mC 185) 40 = .ok (.iload_n 1, 1) by decide +kernel) rfl rfl ?_
    refine e_P (st' := [aI 0, aI v1, aR 191]) (show decode (mC 185) 41 = .ok (.iconst 0, 1) by decide +kernel) rfl rfl rfl ?_
    refine e_iast (n := 168) (show decode (mC 185) 42 = .ok (.iastore, 1) by decide +kernel) (sh_ok hG (by decide +kernel)) (sh_ln hG (by decide +kernel)) (by decide) (s2 p1) (s3 p1) ?_
    refine e_L (L' := [some (aR 188), some (aI (v1 + 1))]) (st' := []) (show decode (mC 185) 43 = .ok (.iinc 1 1, 3) by decide +kernel) rfl rfl ?_
    refine e_go (t := 29) (show decode (mC 185) 46 = .ok (.goto (-17), 3) by decide +kernel) (by decide) ?_
    exact (k4 p1)
/-- SoulOfficeModel.office()I, from 53 -/
theorem b185_53 (hG : Shp G) {x1 : Int}
    (ex1 : c 188 11 = x1)
    (s1 : -2147483648 ≤ x1 ∧ x1 < 2147483648)
    (k2 : (x1 = 0) → T (d + 1) 185 98 [some (aR 188), some (aI 0)] [] (G, c) Q)
    (m3 : (¬ x1 = 0) → TM d 184 [aR 188] (G, c) (fun r h' => T (d + 1) 185 64 [some (aR 188), none] (r.toList ++ []) h' Q)) :
    T (d + 1) 185 53 [some (aR 188), none] [] (G, c) Q := by
  refine e_L (L' := [some (aR 188), none]) (st' := [aR 188]) (show decode (mC 185) 53 = .ok (.aload_n 0, 1) by decide +kernel) rfl (by show (if 188 = 0 then none else some (_, _)) = _; rw [if_neg (by decide)]) ?_
  refine e_getIx (show decode (mC 185) 54 = .ok (.getfield 152, 3) by decide +kernel) (show pl 12 152 = some (0, 12, 11, 0) by decide +kernel) (by decide) (sh_ok hG (by decide +kernel)) ex1 ?_
  refine e_eq1 (t := 96) (show decode (mC 185) 57 = .ok (.ifCond .eq 39, 3) by decide +kernel) (by decide) s1 (fun p1 => ?_) (fun p1 => ?_)
  · refine e_P (st' := [aI 0]) (show decode (mC 185) 96 = .ok (.iconst 0, 1) by decide +kernel) rfl rfl rfl ?_
    refine e_L (L' := [some (aR 188), some (aI 0)]) (st' := []) (show decode (mC 185) 97 = .ok (.istore_n 1, 1) by decide +kernel) rfl rfl ?_
    exact (k2 p1)
  · refine e_L (L' := [some (aR 188), none]) (st' := [aR 188]) (show decode (mC 185) 60 = .ok (.aload_n 0, 1) by decide +kernel) rfl (by show (if 188 = 0 then none else some (_, _)) = _; rw [if_neg (by decide)]) ?_
    exact e_V (as := [aR 188]) (rest := []) (show decode (mC 185) 61 = .ok (.invokevirtual 232, 3) by decide +kernel) (by decide +kernel) (show (decide ((1 : Nat) = mA 184) && decide (184 < q_law)) = true by decide +kernel) rfl (show (0 : Nat) ≤ 8 by decide) (show (1 : Nat) ≤ mL 184 by decide +kernel) rfl (sh_ok hG (by decide +kernel)) (m3 p1)
/-- SoulOfficeModel.office()I, from 64 -/
theorem b185_64 (hG : Shp G) {u0 x1 : Int}
    (s0 : -2147483648 ≤ u0 ∧ u0 < 2147483648)
    (ex1 : c 188 16 = x1)
    (z2 : (u0 = 0) → Q (.inl (some (aI ((-1) - x1)))) (G, c))
    (m3 : (¬ u0 = 0) → TM d 176 [aR 188, aI 59] (G, c) (fun r h' => T (d + 1) 185 73 [some (aR 188), none] (r.toList ++ []) h' Q)) :
    T (d + 1) 185 64 [some (aR 188), none] [aI u0] (G, c) Q := by
  refine e_eq1 (t := 76) (show decode (mC 185) 64 = .ok (.ifCond .eq 12, 3) by decide +kernel) (by decide) s0 (fun p1 => ?_) (fun p1 => ?_)
  · refine e_P (st' := [aI (-1)]) (show decode (mC 185) 76 = .ok (.iconst (-1), 1) by decide +kernel) rfl rfl rfl ?_
    refine e_L (L' := [some (aR 188), none]) (st' := [aR 188, aI (-1)]) (show decode (mC 185) 77 = .ok (.aload_n 0, 1) by decide +kernel) rfl (by show (if 188 = 0 then none else some (_, _)) = _; rw [if_neg (by decide)]) ?_
    refine e_getIx (show decode (mC 185) 78 = .ok (.getfield 172, 3) by decide +kernel) (show pl 12 172 = some (0, 12, 16, 0) by decide +kernel) (by decide) (sh_ok hG (by decide +kernel)) ex1 ?_
    refine e_P (st' := [aI ((-1) - x1)]) (show decode (mC 185) 81 = .ok (.isub, 1) by decide +kernel) rfl rfl rfl ?_
    exact e_iret (show decode (mC 185) 82 = .ok (.ireturn, 1) by decide +kernel) rfl (z2 p1)
  · refine e_L (L' := [some (aR 188), none]) (st' := [aR 188]) (show decode (mC 185) 67 = .ok (.aload_n 0, 1) by decide +kernel) rfl (by show (if 188 = 0 then none else some (_, _)) = _; rw [if_neg (by decide)]) ?_
    refine e_P (st' := [aI 59, aR 188]) (show decode (mC 185) 68 = .ok (.bipush 59, 2) by decide +kernel) rfl rfl rfl ?_
    exact e_V (as := [aR 188, aI 59]) (rest := []) (show decode (mC 185) 70 = .ok (.invokevirtual 235, 3) by decide +kernel) (by decide +kernel) (show (decide ((2 : Nat) = mA 176) && decide (176 < q_law)) = true by decide +kernel) rfl (show (0 : Nat) ≤ 8 by decide) (show (2 : Nat) ≤ mL 176 by decide +kernel) rfl (sh_ok hG (by decide +kernel)) (m3 p1)
/-- SoulOfficeModel.office()I, from 73 -/
theorem b185_73 (hG : Shp G) {u0 x1 x2 : Int}
    (s0 : -2147483648 ≤ u0 ∧ u0 < 2147483648)
    (ex1 : c 188 19 = x1)
    (k2 : (¬ u0 = 0) → T (d + 1) 185 53 [some (aR 188), none] [] (G, (q_up c 188 19 (x1 + 1))) Q)
    (ex2 : c 188 16 = x2)
    (z4 : (u0 = 0) → Q (.inl (some (aI ((-1) - x2)))) (G, c)) :
    T (d + 1) 185 73 [some (aR 188), none] [aI u0] (G, c) Q := by
  refine e_ne1 (t := 83) (show decode (mC 185) 73 = .ok (.ifCond .ne 10, 3) by decide +kernel) (by decide) s0 (fun p1 => ?_) (fun p1 => ?_)
  · refine e_L (L' := [some (aR 188), none]) (st' := [aR 188]) (show decode (mC 185) 83 = .ok (.aload_n 0, 1) by decide +kernel) rfl (by show (if 188 = 0 then none else some (_, _)) = _; rw [if_neg (by decide)]) ?_
    refine e_P (st' := [aR 188, aR 188]) (show decode (mC 185) 84 = .ok (.dup, 1) by decide +kernel) rfl rfl rfl ?_
    refine e_getIx (show decode (mC 185) 85 = .ok (.getfield 229, 3) by decide +kernel) (show pl 12 229 = some (0, 12, 19, 0) by decide +kernel) (by decide) (sh_ok hG (by decide +kernel)) ex1 ?_
    refine e_P (st' := [aI 1, aI x1, aR 188]) (show decode (mC 185) 88 = .ok (.iconst 1, 1) by decide +kernel) rfl rfl rfl ?_
    refine e_P (st' := [aI (x1 + 1), aR 188]) (show decode (mC 185) 89 = .ok (.iadd, 1) by decide +kernel) rfl rfl rfl ?_
    refine e_putI (show decode (mC 185) 90 = .ok (.putfield 229, 3) by decide +kernel) (show pl 12 229 = some (0, 12, 19, 0) by decide +kernel) (by decide) (sh_ok hG (by decide +kernel)) ?_
    refine e_go (t := 53) (show decode (mC 185) 93 = .ok (.goto (-40), 3) by decide +kernel) (by decide) ?_
    exact (k2 p1)
  · refine e_P (st' := [aI (-1)]) (show decode (mC 185) 76 = .ok (.iconst (-1), 1) by decide +kernel) rfl rfl rfl ?_
    refine e_L (L' := [some (aR 188), none]) (st' := [aR 188, aI (-1)]) (show decode (mC 185) 77 = .ok (.aload_n 0, 1) by decide +kernel) rfl (by show (if 188 = 0 then none else some (_, _)) = _; rw [if_neg (by decide)]) ?_
    refine e_getIx (show decode (mC 185) 78 = .ok (.getfield 172, 3) by decide +kernel) (show pl 12 172 = some (0, 12, 16, 0) by decide +kernel) (by decide) (sh_ok hG (by decide +kernel)) ex2 ?_
    refine e_P (st' := [aI ((-1) - x2)]) (show decode (mC 185) 81 = .ok (.isub, 1) by decide +kernel) rfl rfl rfl ?_
    exact e_iret (show decode (mC 185) 82 = .ok (.ireturn, 1) by decide +kernel) rfl (z4 p1)
/-- SoulOfficeModel.office()I, from 98 -/
theorem b185_98 (hG : Shp G) {v1 x1 : Int}
    (s0 : -2147483648 ≤ v1 ∧ v1 < 2147483648)
    (k1 : (514 ≤ v1) → T (d + 1) 185 136 [some (aR 188), some (aI 0)] [] (G, c) Q)
    (s2 : (v1 < 514) → (168 ≤ v1) → 0 ≤ v1)
    (s3 : (v1 < 514) → (168 ≤ v1) → v1 < 514)
    (k4 : (v1 < 514) → (168 ≤ v1) → T (d + 1) 185 98 [some (aR 188), some (aI (v1 + 1))] [] (G, (q_up c 190 v1 0)) Q)
    (s5 : (v1 < 514) → (v1 < 168) → 0 ≤ v1)
    (s6 : (v1 < 514) → (v1 < 168) → v1 < 168)
    (ex1 : c 191 v1 = x1)
    (s8 : (v1 < 514) → (v1 < 168) → v1 < 514)
    (k9 : (v1 < 514) → (v1 < 168) → T (d + 1) 185 98 [some (aR 188), some (aI (v1 + 1))] [] (G, (q_up c 190 v1 x1)) Q) :
    T (d + 1) 185 98 [some (aR 188), some (aI v1)] [] (G, c) Q := by
  refine e_L (L' := [some (aR 188), some (aI v1)]) (st' := [aI v1]) (show decode (mC 185) 98 = .ok (.iload_n 1, 1) by decide +kernel) rfl rfl ?_
  refine e_P (st' := [aI 514, aI v1]) (show decode (mC 185) 99 = .ok (.sipush 514, 3) by decide +kernel) rfl rfl rfl ?_
  refine e_ge2 (t := 134) (show decode (mC 185) 102 = .ok (.if_icmp .ge 32, 3) by decide +kernel) (by decide) s0 (by decide) (fun p1 => ?_) (fun p1 => ?_)
  · refine e_P (st' := [aI 0]) (show decode (mC 185) 134 = .ok (.iconst 0, 1) by decide +kernel) rfl rfl rfl ?_
    refine e_L (L' := [some (aR 188), some (aI 0)]) (st' := []) (show decode (mC 185) 135 = .ok (.istore_n 1, 1) by decide +kernel) rfl rfl ?_
    exact (k1 p1)
  · refine e_L (L' := [some (aR 188), some (aI v1)]) (st' := [aR 188]) (show decode (mC 185) 105 = .ok (.aload_n 0, 1) by decide +kernel) rfl (by show (if 188 = 0 then none else some (_, _)) = _; rw [if_neg (by decide)]) ?_
    refine e_getR (w := 190) (show decode (mC 185) 106 = .ok (.getfield 33, 3) by decide +kernel) (show pl 12 33 = some (0, 12, 6, 0) by decide +kernel) (by decide) (sh_ok hG (by decide +kernel)) (sh_rf hG (by decide +kernel)) ?_
    refine e_L (L' := [some (aR 188), some (aI v1)]) (st' := [aI v1, aR 190]) (show decode (mC 185) 109 = .ok (.iload_n 1, 1) by decide +kernel) rfl rfl ?_
    refine e_L (L' := [some (aR 188), some (aI v1)]) (st' := [aI v1, aI v1, aR 190]) (show decode (mC 185) 110 = .ok (.iload_n 1, 1) by decide +kernel) rfl rfl ?_
    refine e_P (st' := [aI 168, aI v1, aI v1, aR 190]) (show decode (mC 185) 111 = .ok (.sipush 168, 3) by decide +kernel) rfl rfl rfl ?_
    refine e_ge2 (t := 126) (show decode (mC 185) 114 = .ok (.if_icmp .ge 12, 3) by decide +kernel) (by decide) s0 (by decide) (fun p2 => ?_) (fun p2 => ?_)
    · refine e_P (st' := [aI 0, aI v1, aR 190]) (show decode (mC 185) 126 = .ok (.iconst 0, 1) by decide +kernel) rfl rfl rfl ?_
      refine e_iast (n := 514) (show decode (mC 185) 127 = .ok (.iastore, 1) by decide +kernel) (sh_ok hG (by decide +kernel)) (sh_ln hG (by decide +kernel)) (by decide) (s2 p1 p2) (s3 p1 p2) ?_
      refine e_L (L' := [some (aR 188), some (aI (v1 + 1))]) (st' := []) (show decode (mC 185) 128 = .ok (.iinc 1 1, 3) by decide +kernel) rfl rfl ?_
      refine e_go (t := 98) (show decode (mC 185) 131 = .ok (.goto (-33), 3) by decide +kernel) (by decide) ?_
      exact (k4 p1 p2)
    · refine e_L (L' := [some (aR 188), some (aI v1)]) (st' := [aR 188, aI v1, aR 190]) (show decode (mC 185) 117 = .ok (.aload_n 0, 1) by decide +kernel) rfl (by show (if 188 = 0 then none else some (_, _)) = _; rw [if_neg (by decide)]) ?_
      refine e_getR (w := 191) (show decode (mC 185) 118 = .ok (.getfield 37, 3) by decide +kernel) (show pl 12 37 = some (0, 12, 7, 0) by decide +kernel) (by decide) (sh_ok hG (by decide +kernel)) (sh_rf hG (by decide +kernel)) ?_
      refine e_L (L' := [some (aR 188), some (aI v1)]) (st' := [aI v1, aR 191, aI v1, aR 190]) (show decode (mC 185) 121 = .ok (.iload_n 1, 1) by decide +kernel) rfl rfl ?_
      refine e_ialdx (n := 168) (show decode (mC 185) 122 = .ok (.iaload, 1) by decide +kernel) (sh_ok hG (by decide +kernel)) (sh_ln hG (by decide +kernel)) (by decide) (s5 p1 p2) (s6 p1 p2) ex1 ?_
      refine e_go (t := 127) (show decode (mC 185) 123 = .ok (.goto 4, 3) by decide +kernel) (by decide) ?_
      refine e_iast (n := 514) (show decode (mC 185) 127 = .ok (.iastore, 1) by decide +kernel) (sh_ok hG (by decide +kernel)) (sh_ln hG (by decide +kernel)) (by decide) (s5 p1 p2) (s8 p1 p2) ?_
      refine e_L (L' := [some (aR 188), some (aI (v1 + 1))]) (st' := []) (show decode (mC 185) 128 = .ok (.iinc 1 1, 3) by decide +kernel) rfl rfl ?_
      refine e_go (t := 98) (show decode (mC 185) 131 = .ok (.goto (-33), 3) by decide +kernel) (by decide) ?_
      exact (k9 p1 p2)
/-- SoulOfficeModel.office()I, from 136 -/
theorem b185_136 (hG : Shp G) {v1 x1 : Int}
    (s0 : -2147483648 ≤ v1 ∧ v1 < 2147483648)
    (k1 : (14 ≤ v1) → T (d + 1) 185 165 [some (aR 188), some (aI 0)] [] (G, c) Q)
    (s2 : (v1 < 14) → 0 ≤ (14 + v1))
    (s3 : (v1 < 14) → (14 + v1) < 28)
    (ex1 : c 193 (14 + v1) = x1)
    (s5 : (v1 < 14) → 0 ≤ v1)
    (s6 : (v1 < 14) → v1 < 28)
    (k7 : (v1 < 14) → T (d + 1) 185 136 [some (aR 188), some (aI (v1 + 1))] [] (G, (q_up c 193 v1 x1)) Q) :
    T (d + 1) 185 136 [some (aR 188), some (aI v1)] [] (G, c) Q := by
  refine e_L (L' := [some (aR 188), some (aI v1)]) (st' := [aI v1]) (show decode (mC 185) 136 = .ok (.iload_n 1, 1) by decide +kernel) rfl rfl ?_
  refine e_P (st' := [aI 14, aI v1]) (show decode (mC 185) 137 = .ok (.bipush 14, 2) by decide +kernel) rfl rfl rfl ?_
  refine e_ge2 (t := 163) (show decode (mC 185) 139 = .ok (.if_icmp .ge 24, 3) by decide +kernel) (by decide) s0 (by decide) (fun p1 => ?_) (fun p1 => ?_)
  · refine e_P (st' := [aI 0]) (show decode (mC 185) 163 = .ok (.iconst 0, 1) by decide +kernel) rfl rfl rfl ?_
    refine e_L (L' := [some (aR 188), some (aI 0)]) (st' := []) (show decode (mC 185) 164 = .ok (.istore_n 1, 1) by decide +kernel) rfl rfl ?_
    exact (k1 p1)
  · refine e_L (L' := [some (aR 188), some (aI v1)]) (st' := [aR 188]) (show decode (mC 185) 142 = .ok (.aload_n 0, 1) by decide +kernel) rfl (by show (if 188 = 0 then none else some (_, _)) = _; rw [if_neg (by decide)]) ?_
    refine e_getR (w := 193) (show decode (mC 185) 143 = .ok (.getfield 43, 3) by decide +kernel) (show pl 12 43 = some (0, 12, 9, 0) by decide +kernel) (by decide) (sh_ok hG (by decide +kernel)) (sh_rf hG (by decide +kernel)) ?_
    refine e_L (L' := [some (aR 188), some (aI v1)]) (st' := [aI v1, aR 193]) (show decode (mC 185) 146 = .ok (.iload_n 1, 1) by decide +kernel) rfl rfl ?_
    refine e_L (L' := [some (aR 188), some (aI v1)]) (st' := [aR 188, aI v1, aR 193]) (show decode (mC 185) 147 = .ok (.aload_n 0, 1) by decide +kernel) rfl (by show (if 188 = 0 then none else some (_, _)) = _; rw [if_neg (by decide)]) ?_
    refine e_getR (w := 193) (show decode (mC 185) 148 = .ok (.getfield 43, 3) by decide +kernel) (show pl 12 43 = some (0, 12, 9, 0) by decide +kernel) (by decide) (sh_ok hG (by decide +kernel)) (sh_rf hG (by decide +kernel)) ?_
    refine e_P (st' := [aI 14, aR 193, aI v1, aR 193]) (show decode (mC 185) 151 = .ok (.bipush 14, 2) by decide +kernel) rfl rfl rfl ?_
    refine e_L (L' := [some (aR 188), some (aI v1)]) (st' := [aI v1, aI 14, aR 193, aI v1, aR 193]) (show decode (mC 185) 153 = .ok (.iload_n 1, 1) by decide +kernel) rfl rfl ?_
    refine e_P (st' := [aI (14 + v1), aR 193, aI v1, aR 193]) (show decode (mC 185) 154 = .ok (.iadd, 1) by decide +kernel) rfl rfl rfl ?_
    refine e_laldx (n := 28) (show decode (mC 185) 155 = .ok (.laload, 1) by decide +kernel) (sh_ok hG (by decide +kernel)) (sh_ln hG (by decide +kernel)) (by decide) (s2 p1) (s3 p1) ex1 ?_
    refine e_last (n := 28) (show decode (mC 185) 156 = .ok (.lastore, 1) by decide +kernel) (sh_ok hG (by decide +kernel)) (sh_ln hG (by decide +kernel)) (by decide) (s5 p1) (s6 p1) ?_
    refine e_L (L' := [some (aR 188), some (aI (v1 + 1))]) (st' := []) (show decode (mC 185) 157 = .ok (.iinc 1 1, 3) by decide +kernel) rfl rfl ?_
    refine e_go (t := 136) (show decode (mC 185) 160 = .ok (.goto (-24), 3) by decide +kernel) (by decide) ?_
    exact (k7 p1)
/-- SoulOfficeModel.office()I, from 165 -/
theorem b185_165 (hG : Shp G) {v1 x1 x2 : Int}
    (s0 : -2147483648 ≤ v1 ∧ v1 < 2147483648)
    (k1 : (8 ≤ v1) → T (d + 1) 185 210 [some (aR 188), some (aI 0)] [] (G, c) Q)
    (s2 : (v1 < 8) → 0 ≤ (51 + v1))
    (s3 : (v1 < 8) → (51 + v1) < 514)
    (ex1 : c 190 (51 + v1) = x1)
    (s5 : (v1 < 8) → -2147483648 ≤ x1 ∧ x1 < 2147483648)
    (k6 : (v1 < 8) → (¬ x1 = 0) → T (d + 1) 185 165 [some (aR 188), some (aI (v1 + 1))] [] (G, c) Q)
    (ex2 : c 190 0 = x2)
    (k8 : (v1 < 8) → (x1 = 0) → T (d + 1) 185 165 [some (aR 188), some (aI (v1 + 1))] [] (G, (q_up c 190 (51 + v1) ((q_shl 1 x2) - 1))) Q) :
    T (d + 1) 185 165 [some (aR 188), some (aI v1)] [] (G, c) Q := by
  refine e_L (L' := [some (aR 188), some (aI v1)]) (st' := [aI v1]) (show decode (mC 185) 165 = .ok (.iload_n 1, 1) by decide +kernel) rfl rfl ?_
  refine e_P (st' := [aI 8, aI v1]) (show decode (mC 185) 166 = .ok (.bipush 8, 2) by decide +kernel) rfl rfl rfl ?_
  refine e_ge2 (t := 208) (show decode (mC 185) 168 = .ok (.if_icmp .ge 40, 3) by decide +kernel) (by decide) s0 (by decide) (fun p1 => ?_) (fun p1 => ?_)
  · refine e_P (st' := [aI 0]) (show decode (mC 185) 208 = .ok (.iconst 0, 1) by decide +kernel) rfl rfl rfl ?_
    refine e_L (L' := [some (aR 188), some (aI 0)]) (st' := []) (show decode (mC 185) 209 = .ok (.istore_n 1, 1) by decide +kernel) rfl rfl ?_
    exact (k1 p1)
  · refine e_L (L' := [some (aR 188), some (aI v1)]) (st' := [aR 188]) (show decode (mC 185) 171 = .ok (.aload_n 0, 1) by decide +kernel) rfl (by show (if 188 = 0 then none else some (_, _)) = _; rw [if_neg (by decide)]) ?_
    refine e_getR (w := 190) (show decode (mC 185) 172 = .ok (.getfield 33, 3) by decide +kernel) (show pl 12 33 = some (0, 12, 6, 0) by decide +kernel) (by decide) (sh_ok hG (by decide +kernel)) (sh_rf hG (by decide +kernel)) ?_
    refine e_P (st' := [aI 51, aR 190]) (show decode (mC 185) 175 = .ok (.bipush 51, 2) by decide +kernel) rfl rfl rfl ?_
    refine e_L (L' := [some (aR 188), some (aI v1)]) (st' := [aI v1, aI 51, aR 190]) (show decode (mC 185) 177 = .ok (.iload_n 1, 1) by decide +kernel) rfl rfl ?_
    refine e_P (st' := [aI (51 + v1), aR 190]) (show decode (mC 185) 178 = .ok (.iadd, 1) by decide +kernel) rfl rfl rfl ?_
    refine e_ialdx (n := 514) (show decode (mC 185) 179 = .ok (.iaload, 1) by decide +kernel) (sh_ok hG (by decide +kernel)) (sh_ln hG (by decide +kernel)) (by decide) (s2 p1) (s3 p1) ex1 ?_
    refine e_ne1 (t := 202) (show decode (mC 185) 180 = .ok (.ifCond .ne 22, 3) by decide +kernel) (by decide) (s5 p1) (fun p2 => ?_) (fun p2 => ?_)
    · refine e_L (L' := [some (aR 188), some (aI (v1 + 1))]) (st' := []) (show decode (mC 185) 202 = .ok (.iinc 1 1, 3) by decide +kernel) rfl rfl ?_
      refine e_go (t := 165) (show decode (mC 185) 205 = .ok (.goto (-40), 3) by decide +kernel) (by decide) ?_
      exact (k6 p1 p2)
    · refine e_L (L' := [some (aR 188), some (aI v1)]) (st' := [aR 188]) (show decode (mC 185) 183 = .ok (.aload_n 0, 1) by decide +kernel) rfl (by show (if 188 = 0 then none else some (_, _)) = _; rw [if_neg (by decide)]) ?_
      refine e_getR (w := 190) (show decode (mC 185) 184 = .ok (.getfield 33, 3) by decide +kernel) (show pl 12 33 = some (0, 12, 6, 0) by decide +kernel) (by decide) (sh_ok hG (by decide +kernel)) (sh_rf hG (by decide +kernel)) ?_
      refine e_P (st' := [aI 51, aR 190]) (show decode (mC 185) 187 = .ok (.bipush 51, 2) by decide +kernel) rfl rfl rfl ?_
      refine e_L (L' := [some (aR 188), some (aI v1)]) (st' := [aI v1, aI 51, aR 190]) (show decode (mC 185) 189 = .ok (.iload_n 1, 1) by decide +kernel) rfl rfl ?_
      refine e_P (st' := [aI (51 + v1), aR 190]) (show decode (mC 185) 190 = .ok (.iadd, 1) by decide +kernel) rfl rfl rfl ?_
      refine e_P (st' := [aI 1, aI (51 + v1), aR 190]) (show decode (mC 185) 191 = .ok (.iconst 1, 1) by decide +kernel) rfl rfl rfl ?_
      refine e_L (L' := [some (aR 188), some (aI v1)]) (st' := [aR 188, aI 1, aI (51 + v1), aR 190]) (show decode (mC 185) 192 = .ok (.aload_n 0, 1) by decide +kernel) rfl (by show (if 188 = 0 then none else some (_, _)) = _; rw [if_neg (by decide)]) ?_
      refine e_getR (w := 190) (show decode (mC 185) 193 = .ok (.getfield 33, 3) by decide +kernel) (show pl 12 33 = some (0, 12, 6, 0) by decide +kernel) (by decide) (sh_ok hG (by decide +kernel)) (sh_rf hG (by decide +kernel)) ?_
      refine e_P (st' := [aI 0, aR 190, aI 1, aI (51 + v1), aR 190]) (show decode (mC 185) 196 = .ok (.iconst 0, 1) by decide +kernel) rfl rfl rfl ?_
      refine e_ialdx (n := 514) (show decode (mC 185) 197 = .ok (.iaload, 1) by decide +kernel) (sh_ok hG (by decide +kernel)) (sh_ln hG (by decide +kernel)) (by decide) (by decide) (by decide) ex2 ?_
      refine e_P (st' := [aI (q_shl 1 x2), aI (51 + v1), aR 190]) (show decode (mC 185) 198 = .ok (.ishl, 1) by decide +kernel) rfl rfl rfl ?_
      refine e_P (st' := [aI 1, aI (q_shl 1 x2), aI (51 + v1), aR 190]) (show decode (mC 185) 199 = .ok (.iconst 1, 1) by decide +kernel) rfl rfl rfl ?_
      refine e_P (st' := [aI ((q_shl 1 x2) - 1), aI (51 + v1), aR 190]) (show decode (mC 185) 200 = .ok (.isub, 1) by decide +kernel) rfl rfl rfl ?_
      refine e_iast (n := 514) (show decode (mC 185) 201 = .ok (.iastore, 1) by decide +kernel) (sh_ok hG (by decide +kernel)) (sh_ln hG (by decide +kernel)) (by decide) (s2 p1) (s3 p1) ?_
      refine e_L (L' := [some (aR 188), some (aI (v1 + 1))]) (st' := []) (show decode (mC 185) 202 = .ok (.iinc 1 1, 3) by decide +kernel) rfl rfl ?_
      refine e_go (t := 165) (show decode (mC 185) 205 = .ok (.goto (-40), 3) by decide +kernel) (by decide) ?_
      exact (k8 p1 p2)
/-- SoulOfficeModel.office()I, from 210 -/
theorem b185_210 (hG : Shp G) {v1 x1 x2 : Int}
    (s0 : -2147483648 ≤ v1 ∧ v1 < 2147483648)
    (ex1 : (q_up c 188 23 0) 188 19 = x1)
    (z2 : (64 ≤ v1) → Q (.inl (some (aI x1))) (G, (q_up c 188 23 0)))
    (s3 : (v1 < 64) → 0 ≤ (67 + v1))
    (s4 : (v1 < 64) → (67 + v1) < 514)
    (ex2 : c 190 (67 + v1) = x2)
    (s6 : (v1 < 64) → 0 ≤ (205 + v1))
    (s7 : (v1 < 64) → (205 + v1) < 514)
    (k8 : (v1 < 64) → T (d + 1) 185 210 [some (aR 188), some (aI (v1 + 1))] [] (G, (q_up c 190 (205 + v1) x2)) Q) :
    T (d + 1) 185 210 [some (aR 188), some (aI v1)] [] (G, c) Q := by
  refine e_L (L' := [some (aR 188), some (aI v1)]) (st' := [aI v1]) (show decode (mC 185) 210 = .ok (.iload_n 1, 1) by decide +kernel) rfl rfl ?_
  refine e_P (st' := [aI 64, aI v1]) (show decode (mC 185) 211 = .ok (.bipush 64, 2) by decide +kernel) rfl rfl rfl ?_
  refine e_ge2 (t := 241) (show decode (mC 185) 213 = .ok (.if_icmp .ge 28, 3) by decide +kernel) (by decide) s0 (by decide) (fun p1 => ?_) (fun p1 => ?_)
  · refine e_L (L' := [some (aR 188), some (aI v1)]) (st' := [aR 188]) (show decode (mC 185) 241 = .ok (.aload_n 0, 1) by decide +kernel) rfl (by show (if 188 = 0 then none else some (_, _)) = _; rw [if_neg (by decide)]) ?_
    refine e_P (st' := [aI 0, aR 188]) (show decode (mC 185) 242 = .ok (.iconst 0, 1) by decide +kernel) rfl rfl rfl ?_
    refine e_putI (show decode (mC 185) 243 = .ok (.putfield 238, 3) by decide +kernel) (show pl 12 238 = some (0, 12, 23, 0) by decide +kernel) (by decide) (sh_ok hG (by decide +kernel)) ?_
    refine e_L (L' := [some (aR 188), some (aI v1)]) (st' := [aR 188]) (show decode (mC 185) 246 = .ok (.aload_n 0, 1) by decide +kernel) rfl (by show (if 188 = 0 then none else some (_, _)) = _; rw [if_neg (by decide)]) ?_
    refine e_getIx (show decode (mC 185) 247 = .ok (.getfield 229, 3) by decide +kernel) (show pl 12 229 = some (0, 12, 19, 0) by decide +kernel) (by decide) (sh_ok hG (by decide +kernel)) ex1 ?_
    exact e_iret (show decode (mC 185) 250 = .ok (.ireturn, 1) by decide +kernel) rfl (z2 p1)
  · refine e_L (L' := [some (aR 188), some (aI v1)]) (st' := [aR 188]) (show decode (mC 185) 216 = .ok (.aload_n 0, 1) by decide +kernel) rfl (by show (if 188 = 0 then none else some (_, _)) = _; rw [if_neg (by decide)]) ?_
    refine e_getR (w := 190) (show decode (mC 185) 217 = .ok (.getfield 33, 3) by decide +kernel) (show pl 12 33 = some (0, 12, 6, 0) by decide +kernel) (by decide) (sh_ok hG (by decide +kernel)) (sh_rf hG (by decide +kernel)) ?_
    refine e_P (st' := [aI 205, aR 190]) (show decode (mC 185) 220 = .ok (.sipush 205, 3) by decide +kernel) rfl rfl rfl ?_
    refine e_L (L' := [some (aR 188), some (aI v1)]) (st' := [aI v1, aI 205, aR 190]) (show decode (mC 185) 223 = .ok (.iload_n 1, 1) by decide +kernel) rfl rfl ?_
    refine e_P (st' := [aI (205 + v1), aR 190]) (show decode (mC 185) 224 = .ok (.iadd, 1) by decide +kernel) rfl rfl rfl ?_
    refine e_L (L' := [some (aR 188), some (aI v1)]) (st' := [aR 188, aI (205 + v1), aR 190]) (show decode (mC 185) 225 = .ok (.aload_n 0, 1) by decide +kernel) rfl (by show (if 188 = 0 then none else some (_, _)) = _; rw [if_neg (by decide)]) ?_
    refine e_getR (w := 190) (show decode (mC 185) 226 = .ok (.getfield 33, 3) by decide +kernel) (show pl 12 33 = some (0, 12, 6, 0) by decide +kernel) (by decide) (sh_ok hG (by decide +kernel)) (sh_rf hG (by decide +kernel)) ?_
    refine e_P (st' := [aI 67, aR 190, aI (205 + v1), aR 190]) (show decode (mC 185) 229 = .ok (.bipush 67, 2) by decide +kernel) rfl rfl rfl ?_
    refine e_L (L' := [some (aR 188), some (aI v1)]) (st' := [aI v1, aI 67, aR 190, aI (205 + v1), aR 190]) (show decode (mC 185) 231 = .ok (.iload_n 1, 1) by decide +kernel) rfl rfl ?_
    refine e_P (st' := [aI (67 + v1), aR 190, aI (205 + v1), aR 190]) (show decode (mC 185) 232 = .ok (.iadd, 1) by decide +kernel) rfl rfl rfl ?_
    refine e_ialdx (n := 514) (show decode (mC 185) 233 = .ok (.iaload, 1) by decide +kernel) (sh_ok hG (by decide +kernel)) (sh_ln hG (by decide +kernel)) (by decide) (s3 p1) (s4 p1) ex2 ?_
    refine e_iast (n := 514) (show decode (mC 185) 234 = .ok (.iastore, 1) by decide +kernel) (sh_ok hG (by decide +kernel)) (sh_ln hG (by decide +kernel)) (by decide) (s6 p1) (s7 p1) ?_
    refine e_L (L' := [some (aR 188), some (aI (v1 + 1))]) (st' := []) (show decode (mC 185) 235 = .ok (.iinc 1 1, 3) by decide +kernel) rfl rfl ?_
    refine e_go (t := 210) (show decode (mC 185) 238 = .ok (.goto (-28), 3) by decide +kernel) (by decide) ?_
    exact (k8 p1)
/-- SoulOfficeModel.fault()I, from 0 -/
theorem b186_0 (hG : Shp G) {x1 : Int}
    (ex1 : (q_up c 188 0 0) 188 15 = x1)
    (z1 : Q (.inl (some (aI x1))) (G, (q_up c 188 0 0))) :
    T d 186 0 [some (aR 188)] [] (G, c) Q := by
  refine e_L (L' := [some (aR 188)]) (st' := [aR 188]) (show decode (mC 186) 0 = .ok (.aload_n 0, 1) by decide +kernel) rfl (by show (if 188 = 0 then none else some (_, _)) = _; rw [if_neg (by decide)]) ?_
  refine e_P (st' := [aI 0, aR 188]) (show decode (mC 186) 1 = .ok (.iconst 0, 1) by decide +kernel) rfl rfl rfl ?_
  refine e_putI (show decode (mC 186) 2 = .ok (.putfield 1, 3) by decide +kernel) (show pl 12 1 = some (0, 12, 0, 0) by decide +kernel) (by decide) (sh_ok hG (by decide +kernel)) ?_
  refine e_L (L' := [some (aR 188)]) (st' := [aR 188]) (show decode (mC 186) 5 = .ok (.aload_n 0, 1) by decide +kernel) rfl (by show (if 188 = 0 then none else some (_, _)) = _; rw [if_neg (by decide)]) ?_
  refine e_getIx (show decode (mC 186) 6 = .ok (.getfield 169, 3) by decide +kernel) (show pl 12 169 = some (0, 12, 15, 0) by decide +kernel) (by decide) (sh_ok hG (by decide +kernel)) ex1 ?_
  exact e_iret (show decode (mC 186) 9 = .ok (.ireturn, 1) by decide +kernel) rfl z1
/-- SoulOfficeModel.isKind(I)Z, from 0 -/
theorem b187_0 (hG : Shp G) {v1 x1 : Int} (hQ : ∀ o o' h', q_eqo o o' → Q o h' → Q o' h')
    (ex1 : c 190 0 = x1)
    (m1 : TM d 164 [aI v1, aI 0, aI (x1 - 1)] (G, c) (fun r h' => T (d + 1) 187 13 [none, none] (r.toList ++ []) h' Q)) :
    T (d + 1) 187 0 [some (aR 188), some (aI v1)] [] (G, c) Q := by
  refine e_L (L' := [some (aR 188), some (aI v1)]) (st' := [aI v1]) (show decode (mC 187) 0 = .ok (.iload_n 1, 1) by decide +kernel) rfl rfl ?_
  refine e_P (st' := [aI 0, aI v1]) (show decode (mC 187) 1 = .ok (.iconst 0, 1) by decide +kernel) rfl rfl rfl ?_
  refine e_L (L' := [some (aR 188), some (aI v1)]) (st' := [aR 188, aI 0, aI v1]) (show decode (mC 187) 2 = .ok (.aload_n 0, 1) by decide +kernel) rfl (by show (if 188 = 0 then none else some (_, _)) = _; rw [if_neg (by decide)]) ?_
  refine e_getR (w := 190) (show decode (mC 187) 3 = .ok (.getfield 33, 3) by decide +kernel) (show pl 12 33 = some (0, 12, 6, 0) by decide +kernel) (by decide) (sh_ok hG (by decide +kernel)) (sh_rf hG (by decide +kernel)) ?_
  refine e_P (st' := [aI 0, aR 190, aI 0, aI v1]) (show decode (mC 187) 6 = .ok (.iconst 0, 1) by decide +kernel) rfl rfl rfl ?_
  refine e_ialdx (n := 514) (show decode (mC 187) 7 = .ok (.iaload, 1) by decide +kernel) (sh_ok hG (by decide +kernel)) (sh_ln hG (by decide +kernel)) (by decide) (by decide) (by decide) ex1 ?_
  refine e_P (st' := [aI 1, aI x1, aI 0, aI v1]) (show decode (mC 187) 8 = .ok (.iconst 1, 1) by decide +kernel) rfl rfl rfl ?_
  refine e_P (st' := [aI (x1 - 1), aI 0, aI v1]) (show decode (mC 187) 9 = .ok (.isub, 1) by decide +kernel) rfl rfl rfl ?_
  exact e_S (as := [aI v1, aI 0, aI (x1 - 1)]) (rest := []) (show decode (mC 187) 10 = .ok (.invokestatic 184, 3) by decide +kernel) (by decide +kernel) (show (decide ((3 : Nat) = mA 164) && decide (164 < q_law)) = true by decide +kernel) rfl (show (0 : Nat) ≤ 8 by decide) (show (3 : Nat) ≤ mL 164 by decide +kernel) (tm_le hQ (leN (leN leE)) m1)
/-- SoulOfficeModel.isKind(I)Z, from 13 -/
theorem b187_13 (hG : Shp G) {u0 : Int}
    (s0 : u0 = 0 ∨ u0 = 1)
    (z1 : Q (.inl (some (aI u0))) (G, c)) :
    T (d + 1) 187 13 [none, none] [aI u0] (G, c) Q := by
  exact e_zret (show decode (mC 187) 13 = .ok (.ireturn, 1) by decide +kernel) rfl s0 z1
/-- SoulOfficeModel.isSoul(I)Z, from 0 -/
theorem b188_0 (hG : Shp G) {v1 x1 : Int} (hQ : ∀ o o' h', q_eqo o o' → Q o h' → Q o' h')
    (ex1 : c 190 1 = x1)
    (m1 : TM d 164 [aI v1, aI 0, aI (x1 - 1)] (G, c) (fun r h' => T (d + 1) 188 13 [none, none] (r.toList ++ []) h' Q)) :
    T (d + 1) 188 0 [some (aR 188), some (aI v1)] [] (G, c) Q := by
  refine e_L (L' := [some (aR 188), some (aI v1)]) (st' := [aI v1]) (show decode (mC 188) 0 = .ok (.iload_n 1, 1) by decide +kernel) rfl rfl ?_
  refine e_P (st' := [aI 0, aI v1]) (show decode (mC 188) 1 = .ok (.iconst 0, 1) by decide +kernel) rfl rfl rfl ?_
  refine e_L (L' := [some (aR 188), some (aI v1)]) (st' := [aR 188, aI 0, aI v1]) (show decode (mC 188) 2 = .ok (.aload_n 0, 1) by decide +kernel) rfl (by show (if 188 = 0 then none else some (_, _)) = _; rw [if_neg (by decide)]) ?_
  refine e_getR (w := 190) (show decode (mC 188) 3 = .ok (.getfield 33, 3) by decide +kernel) (show pl 12 33 = some (0, 12, 6, 0) by decide +kernel) (by decide) (sh_ok hG (by decide +kernel)) (sh_rf hG (by decide +kernel)) ?_
  refine e_P (st' := [aI 1, aR 190, aI 0, aI v1]) (show decode (mC 188) 6 = .ok (.iconst 1, 1) by decide +kernel) rfl rfl rfl ?_
  refine e_ialdx (n := 514) (show decode (mC 188) 7 = .ok (.iaload, 1) by decide +kernel) (sh_ok hG (by decide +kernel)) (sh_ln hG (by decide +kernel)) (by decide) (by decide) (by decide) ex1 ?_
  refine e_P (st' := [aI 1, aI x1, aI 0, aI v1]) (show decode (mC 188) 8 = .ok (.iconst 1, 1) by decide +kernel) rfl rfl rfl ?_
  refine e_P (st' := [aI (x1 - 1), aI 0, aI v1]) (show decode (mC 188) 9 = .ok (.isub, 1) by decide +kernel) rfl rfl rfl ?_
  exact e_S (as := [aI v1, aI 0, aI (x1 - 1)]) (rest := []) (show decode (mC 188) 10 = .ok (.invokestatic 184, 3) by decide +kernel) (by decide +kernel) (show (decide ((3 : Nat) = mA 164) && decide (164 < q_law)) = true by decide +kernel) rfl (show (0 : Nat) ≤ 8 by decide) (show (3 : Nat) ≤ mL 164 by decide +kernel) (tm_le hQ (leN (leN leE)) m1)
/-- SoulOfficeModel.isSoul(I)Z, from 13 -/
theorem b188_13 (hG : Shp G) {u0 : Int}
    (s0 : u0 = 0 ∨ u0 = 1)
    (z1 : Q (.inl (some (aI u0))) (G, c)) :
    T (d + 1) 188 13 [none, none] [aI u0] (G, c) Q := by
  exact e_zret (show decode (mC 188) 13 = .ok (.ireturn, 1) by decide +kernel) rfl s0 z1
/-- SoulOfficeModel.roomOf(I)I, from 0 -/
theorem b189_0 (hG : Shp G) {v1 x1 : Int}
    (s0 : 0 ≤ (9 + v1))
    (s1 : (9 + v1) < 514)
    (ex1 : c 190 (9 + v1) = x1)
    (k3 : T d 189 12 [some (aR 188), some (aI v1), some (aI x1), some (aI 0)] [] (G, c) Q) :
    T d 189 0 [some (aR 188), some (aI v1), none, none] [] (G, c) Q := by
  refine e_L (L' := [some (aR 188), some (aI v1), none, none]) (st' := [aR 188]) (show decode (mC 189) 0 = .ok (.aload_n 0, 1) by decide +kernel) rfl (by show (if 188 = 0 then none else some (_, _)) = _; rw [if_neg (by decide)]) ?_
  refine e_getR (w := 190) (show decode (mC 189) 1 = .ok (.getfield 33, 3) by decide +kernel) (show pl 12 33 = some (0, 12, 6, 0) by decide +kernel) (by decide) (sh_ok hG (by decide +kernel)) (sh_rf hG (by decide +kernel)) ?_
  refine e_P (st' := [aI 9, aR 190]) (show decode (mC 189) 4 = .ok (.bipush 9, 2) by decide +kernel) rfl rfl rfl ?_
  refine e_L (L' := [some (aR 188), some (aI v1), none, none]) (st' := [aI v1, aI 9, aR 190]) (show decode (mC 189) 6 = .ok (.iload_n 1, 1) by decide +kernel) rfl rfl ?_
  refine e_P (st' := [aI (9 + v1), aR 190]) (show decode (mC 189) 7 = .ok (.iadd, 1) by decide +kernel) rfl rfl rfl ?_
  refine e_ialdx (n := 514) (show decode (mC 189) 8 = .ok (.iaload, 1) by decide +kernel) (sh_ok hG (by decide +kernel)) (sh_ln hG (by decide +kernel)) (by decide) s0 s1 ex1 ?_
  refine e_L (L' := [some (aR 188), some (aI v1), some (aI x1), none]) (st' := []) (show decode (mC 189) 9 = .ok (.istore_n 2, 1) by decide +kernel) rfl rfl ?_
  refine e_P (st' := [aI 0]) (show decode (mC 189) 10 = .ok (.iconst 0, 1) by decide +kernel) rfl rfl rfl ?_
  refine e_L (L' := [some (aR 188), some (aI v1), some (aI x1), some (aI 0)]) (st' := []) (show decode (mC 189) 11 = .ok (.istore_n 3, 1) by decide +kernel) rfl rfl ?_
  exact k3
/-- SoulOfficeModel.roomOf(I)I, from 12 -/
theorem b189_12 (hG : Shp G) {v1 v2 v3 x1 x2 x3 : Int}
    (ex1 : c 190 1 = x1)
    (s1 : -2147483648 ≤ v3 ∧ v3 < 2147483648)
    (s2 : -2147483648 ≤ x1 ∧ x1 < 2147483648)
    (z3 : (x1 ≤ v3) → Q (.inl (some (aI v2))) (G, c))
    (s4 : (v3 < x1) → 0 ≤ (197 + v3))
    (s5 : (v3 < x1) → (197 + v3) < 514)
    (ex2 : c 190 (197 + v3) = x2)
    (s7 : (v3 < x1) → -2147483648 ≤ x2 ∧ x2 < 2147483648)
    (k8 : (v3 < x1) → (¬ x2 = 1) → T d 189 12 [some (aR 188), some (aI v1), some (aI (v2 - 0)), some (aI (v3 + 1))] [] (G, c) Q)
    (s9 : (v3 < x1) → (x2 = 1) → 0 ≤ (173 + v3))
    (s10 : (v3 < x1) → (x2 = 1) → (173 + v3) < 514)
    (ex3 : c 190 (173 + v3) = x3)
    (s12 : (v3 < x1) → (x2 = 1) → -2147483648 ≤ x3 ∧ x3 < 2147483648)
    (s13 : (v3 < x1) → (x2 = 1) → -2147483648 ≤ (v1 + 1) ∧ (v1 + 1) < 2147483648)
    (k14 : (v3 < x1) → (x2 = 1) → (¬ x3 = (v1 + 1)) → T d 189 12 [some (aR 188), some (aI v1), some (aI (v2 - 0)), some (aI (v3 + 1))] [] (G, c) Q)
    (k15 : (v3 < x1) → (x2 = 1) → (x3 = (v1 + 1)) → T d 189 12 [some (aR 188), some (aI v1), some (aI (v2 - 1)), some (aI (v3 + 1))] [] (G, c) Q) :
    T d 189 12 [some (aR 188), some (aI v1), some (aI v2), some (aI v3)] [] (G, c) Q := by
  refine e_L (L' := [some (aR 188), some (aI v1), some (aI v2), some (aI v3)]) (st' := [aI v3]) (show decode (mC 189) 12 = .ok (.iload_n 3, 1) by decide +kernel) rfl rfl ?_
  refine e_L (L' := [some (aR 188), some (aI v1), some (aI v2), some (aI v3)]) (st' := [aR 188, aI v3]) (show decode (mC 189) 13 = .ok (.aload_n 0, 1) by decide +kernel) rfl (by show (if 188 = 0 then none else some (_, _)) = _; rw [if_neg (by decide)]) ?_
  refine e_getR (w := 190) (show decode (mC 189) 14 = .ok (.getfield 33, 3) by decide +kernel) (show pl 12 33 = some (0, 12, 6, 0) by decide +kernel) (by decide) (sh_ok hG (by decide +kernel)) (sh_rf hG (by decide +kernel)) ?_
  refine e_P (st' := [aI 1, aR 190, aI v3]) (show decode (mC 189) 17 = .ok (.iconst 1, 1) by decide +kernel) rfl rfl rfl ?_
  refine e_ialdx (n := 514) (show decode (mC 189) 18 = .ok (.iaload, 1) by decide +kernel) (sh_ok hG (by decide +kernel)) (sh_ln hG (by decide +kernel)) (by decide) (by decide) (by decide) ex1 ?_
  refine e_ge2 (t := 66) (show decode (mC 189) 19 = .ok (.if_icmp .ge 47, 3) by decide +kernel) (by decide) s1 s2 (fun p1 => ?_) (fun p1 => ?_)
  · refine e_L (L' := [some (aR 188), some (aI v1), some (aI v2), some (aI v3)]) (st' := [aI v2]) (show decode (mC 189) 66 = .ok (.iload_n 2, 1) by decide +kernel) rfl rfl ?_
    exact e_iret (show decode (mC 189) 67 = .ok (.ireturn, 1) by decide +kernel) rfl (z3 p1)
  · refine e_L (L' := [some (aR 188), some (aI v1), some (aI v2), some (aI v3)]) (st' := [aI v2]) (show decode (mC 189) 22 = .ok (.iload_n 2, 1) by decide +kernel) rfl rfl ?_
    refine e_L (L' := [some (aR 188), some (aI v1), some (aI v2), some (aI v3)]) (st' := [aR 188, aI v2]) (show decode (mC 189) 23 = .ok (.aload_n 0, 1) by decide +kernel) rfl (by show (if 188 = 0 then none else some (_, _)) = _; rw [if_neg (by decide)]) ?_
    refine e_getR (w := 190) (show decode (mC 189) 24 = .ok (.getfield 33, 3) by decide +kernel) (show pl 12 33 = some (0, 12, 6, 0) by decide +kernel) (by decide) (sh_ok hG (by decide +kernel)) (sh_rf hG (by decide +kernel)) ?_
    refine e_P (st' := [aI 197, aR 190, aI v2]) (show decode (mC 189) 27 = .ok (.sipush 197, 3) by decide +kernel) rfl rfl rfl ?_
    refine e_L (L' := [some (aR 188), some (aI v1), some (aI v2), some (aI v3)]) (st' := [aI v3, aI 197, aR 190, aI v2]) (show decode (mC 189) 30 = .ok (.iload_n 3, 1) by decide +kernel) rfl rfl ?_
    refine e_P (st' := [aI (197 + v3), aR 190, aI v2]) (show decode (mC 189) 31 = .ok (.iadd, 1) by decide +kernel) rfl rfl rfl ?_
    refine e_ialdx (n := 514) (show decode (mC 189) 32 = .ok (.iaload, 1) by decide +kernel) (sh_ok hG (by decide +kernel)) (sh_ln hG (by decide +kernel)) (by decide) (s4 p1) (s5 p1) ex2 ?_
    refine e_P (st' := [aI 1, aI x2, aI v2]) (show decode (mC 189) 33 = .ok (.iconst 1, 1) by decide +kernel) rfl rfl rfl ?_
    refine e_ne2 (t := 57) (show decode (mC 189) 34 = .ok (.if_icmp .ne 23, 3) by decide +kernel) (by decide) (s7 p1) (by decide) (fun p2 => ?_) (fun p2 => ?_)
    · refine e_P (st' := [aI 0, aI v2]) (show decode (mC 189) 57 = .ok (.iconst 0, 1) by decide +kernel) rfl rfl rfl ?_
      refine e_P (st' := [aI (v2 - 0)]) (show decode (mC 189) 58 = .ok (.isub, 1) by decide +kernel) rfl rfl rfl ?_
      refine e_L (L' := [some (aR 188), some (aI v1), some (aI (v2 - 0)), some (aI v3)]) (st' := []) (show decode (mC 189) 59 = .ok (.istore_n 2, 1) by decide +kernel) rfl rfl ?_
      refine e_L (L' := [some (aR 188), some (aI v1), some (aI (v2 - 0)), some (aI (v3 + 1))]) (st' := []) (show decode (mC 189) 60 = .ok (.iinc 3 1, 3) by decide +kernel) rfl rfl ?_
      refine e_go (t := 12) (show decode (mC 189) 63 = .ok (.goto (-51), 3) by decide +kernel) (by decide) ?_
      exact (k8 p1 p2)
    · refine e_L (L' := [some (aR 188), some (aI v1), some (aI v2), some (aI v3)]) (st' := [aR 188, aI v2]) (show decode (mC 189) 37 = .ok (.aload_n 0, 1) by decide +kernel) rfl (by show (if 188 = 0 then none else some (_, _)) = _; rw [if_neg (by decide)]) ?_
      refine e_getR (w := 190) (show decode (mC 189) 38 = .ok (.getfield 33, 3) by decide +kernel) (show pl 12 33 = some (0, 12, 6, 0) by decide +kernel) (by decide) (sh_ok hG (by decide +kernel)) (sh_rf hG (by decide +kernel)) ?_
      refine e_P (st' := [aI 173, aR 190, aI v2]) (show decode (mC 189) 41 = .ok (.sipush 173, 3) by decide +kernel) rfl rfl rfl ?_
      refine e_L (L' := [some (aR 188), some (aI v1), some (aI v2), some (aI v3)]) (st' := [aI v3, aI 173, aR 190, aI v2]) (show decode (mC 189) 44 = .ok (.iload_n 3, 1) by decide +kernel) rfl rfl ?_
      refine e_P (st' := [aI (173 + v3), aR 190, aI v2]) (show decode (mC 189) 45 = .ok (.iadd, 1) by decide +kernel) rfl rfl rfl ?_
      refine e_ialdx (n := 514) (show decode (mC 189) 46 = .ok (.iaload, 1) by decide +kernel) (sh_ok hG (by decide +kernel)) (sh_ln hG (by decide +kernel)) (by decide) (s9 p1 p2) (s10 p1 p2) ex3 ?_
      refine e_L (L' := [some (aR 188), some (aI v1), some (aI v2), some (aI v3)]) (st' := [aI v1, aI x3, aI v2]) (show decode (mC 189) 47 = .ok (.iload_n 1, 1) by decide +kernel) rfl rfl ?_
      refine e_P (st' := [aI 1, aI v1, aI x3, aI v2]) (show decode (mC 189) 48 = .ok (.iconst 1, 1) by decide +kernel) rfl rfl rfl ?_
      refine e_P (st' := [aI (v1 + 1), aI x3, aI v2]) (show decode (mC 189) 49 = .ok (.iadd, 1) by decide +kernel) rfl rfl rfl ?_
      refine e_ne2 (t := 57) (show decode (mC 189) 50 = .ok (.if_icmp .ne 7, 3) by decide +kernel) (by decide) (s12 p1 p2) (s13 p1 p2) (fun p3 => ?_) (fun p3 => ?_)
      · refine e_P (st' := [aI 0, aI v2]) (show decode (mC 189) 57 = .ok (.iconst 0, 1) by decide +kernel) rfl rfl rfl ?_
        refine e_P (st' := [aI (v2 - 0)]) (show decode (mC 189) 58 = .ok (.isub, 1) by decide +kernel) rfl rfl rfl ?_
        refine e_L (L' := [some (aR 188), some (aI v1), some (aI (v2 - 0)), some (aI v3)]) (st' := []) (show decode (mC 189) 59 = .ok (.istore_n 2, 1) by decide +kernel) rfl rfl ?_
        refine e_L (L' := [some (aR 188), some (aI v1), some (aI (v2 - 0)), some (aI (v3 + 1))]) (st' := []) (show decode (mC 189) 60 = .ok (.iinc 3 1, 3) by decide +kernel) rfl rfl ?_
        refine e_go (t := 12) (show decode (mC 189) 63 = .ok (.goto (-51), 3) by decide +kernel) (by decide) ?_
        exact (k14 p1 p2 p3)
      · refine e_P (st' := [aI 1, aI v2]) (show decode (mC 189) 53 = .ok (.iconst 1, 1) by decide +kernel) rfl rfl rfl ?_
        refine e_go (t := 58) (show decode (mC 189) 54 = .ok (.goto 4, 3) by decide +kernel) (by decide) ?_
        refine e_P (st' := [aI (v2 - 1)]) (show decode (mC 189) 58 = .ok (.isub, 1) by decide +kernel) rfl rfl rfl ?_
        refine e_L (L' := [some (aR 188), some (aI v1), some (aI (v2 - 1)), some (aI v3)]) (st' := []) (show decode (mC 189) 59 = .ok (.istore_n 2, 1) by decide +kernel) rfl rfl ?_
        refine e_L (L' := [some (aR 188), some (aI v1), some (aI (v2 - 1)), some (aI (v3 + 1))]) (st' := []) (show decode (mC 189) 60 = .ok (.iinc 3 1, 3) by decide +kernel) rfl rfl ?_
        refine e_go (t := 12) (show decode (mC 189) 63 = .ok (.goto (-51), 3) by decide +kernel) (by decide) ?_
        exact (k15 p1 p2 p3)
/-- SoulOfficeModel.kind(II)I, from 0 -/
theorem b190_0 (hG : Shp G) {v1 v2 : Int}
    (m0 : TM d 187 [aR 188, aI v1] (G, (q_up c 188 0 0)) (fun r h' => T (d + 1) 190 10 [some (aR 188), some (aI v1), some (aI v2), none, none] (r.toList ++ []) h' Q)) :
    T (d + 1) 190 0 [some (aR 188), some (aI v1), some (aI v2), none, none] [] (G, c) Q := by
  refine e_L (L' := [some (aR 188), some (aI v1), some (aI v2), none, none]) (st' := [aR 188]) (show decode (mC 190) 0 = .ok (.aload_n 0, 1) by decide +kernel) rfl (by show (if 188 = 0 then none else some (_, _)) = _; rw [if_neg (by decide)]) ?_
  refine e_P (st' := [aI 0, aR 188]) (show decode (mC 190) 1 = .ok (.iconst 0, 1) by decide +kernel) rfl rfl rfl ?_
  refine e_putI (show decode (mC 190) 2 = .ok (.putfield 1, 3) by decide +kernel) (show pl 12 1 = some (0, 12, 0, 0) by decide +kernel) (by decide) (sh_ok hG (by decide +kernel)) ?_
  refine e_L (L' := [some (aR 188), some (aI v1), some (aI v2), none, none]) (st' := [aR 188]) (show decode (mC 190) 5 = .ok (.aload_n 0, 1) by decide +kernel) rfl (by show (if 188 = 0 then none else some (_, _)) = _; rw [if_neg (by decide)]) ?_
  refine e_L (L' := [some (aR 188), some (aI v1), some (aI v2), none, none]) (st' := [aI v1, aR 188]) (show decode (mC 190) 6 = .ok (.iload_n 1, 1) by decide +kernel) rfl rfl ?_
  exact e_V (as := [aR 188, aI v1]) (rest := []) (show decode (mC 190) 7 = .ok (.invokevirtual 241, 3) by decide +kernel) (by decide +kernel) (show (decide ((2 : Nat) = mA 187) && decide (187 < q_law)) = true by decide +kernel) rfl (show (0 : Nat) ≤ 8 by decide) (show (2 : Nat) ≤ mL 187 by decide +kernel) rfl (sh_ok hG (by decide +kernel)) m0
/-- SoulOfficeModel.kind(II)I, from 10 -/
theorem b190_10 (hG : Shp G) {v1 v2 u0 : Int}
    (s0 : -2147483648 ≤ u0 ∧ u0 < 2147483648)
    (k1 : (¬ u0 = 0) → T (d + 1) 190 20 [some (aR 188), some (aI v1), some (aI v2), some (aI 0), some (aI 0)] [] (G, c) Q)
    (z2 : (u0 = 0) → Q (.inl (some (aI (-1)))) (G, c)) :
    T (d + 1) 190 10 [some (aR 188), some (aI v1), some (aI v2), none, none] [aI u0] (G, c) Q := by
  refine e_ne1 (t := 15) (show decode (mC 190) 10 = .ok (.ifCond .ne 5, 3) by decide +kernel) (by decide) s0 (fun p1 => ?_) (fun p1 => ?_)
  · refine e_P (st' := [aI 0]) (show decode (mC 190) 15 = .ok (.iconst 0, 1) by decide +kernel) rfl rfl rfl ?_
    refine e_L (L' := [some (aR 188), some (aI v1), some (aI v2), some (aI 0), none]) (st' := []) (show decode (mC 190) 16 = .ok (.istore_n 3, 1) by decide +kernel) rfl rfl ?_
    refine e_P (st' := [aI 0]) (show decode (mC 190) 17 = .ok (.iconst 0, 1) by decide +kernel) rfl rfl rfl ?_
    refine e_L (L' := [some (aR 188), some (aI v1), some (aI v2), some (aI 0), some (aI 0)]) (st' := []) (show decode (mC 190) 18 = .ok (.istore 4, 2) by decide +kernel) rfl rfl ?_
    exact (k1 p1)
  · refine e_P (st' := [aI (-1)]) (show decode (mC 190) 13 = .ok (.iconst (-1), 1) by decide +kernel) rfl rfl rfl ?_
    exact e_iret (show decode (mC 190) 14 = .ok (.ireturn, 1) by decide +kernel) rfl (z2 p1)
/-- SoulOfficeModel.kind(II)I, from 20 -/
theorem b190_20 (hG : Shp G) {v1 v2 v3 v4 x1 x2 x3 x4 : Int} (hQ : ∀ o o' h', q_eqo o o' → Q o h' → Q o' h')
    (ex1 : c 190 1 = x1)
    (s1 : -2147483648 ≤ v4 ∧ v4 < 2147483648)
    (s2 : -2147483648 ≤ x1 ∧ x1 < 2147483648)
    (s3 : (x1 ≤ v4) → -2147483648 ≤ v2 ∧ v2 < 2147483648)
    (z4 : (x1 ≤ v4) → (v2 < 0 ∨ 3 < v2) → Q (.inl (some (aI (-1)))) (G, c))
    (s5 : (x1 ≤ v4) → (v2 = 0) → 0 ≤ (3 + v1))
    (s6 : (x1 ≤ v4) → (v2 = 0) → (3 + v1) < 514)
    (ex2 : c 190 (3 + v1) = x2)
    (z8 : (x1 ≤ v4) → (v2 = 0) → Q (.inl (some (aI x2))) (G, c))
    (s9 : (x1 ≤ v4) → (v2 = 1) → 0 ≤ (9 + v1))
    (s10 : (x1 ≤ v4) → (v2 = 1) → (9 + v1) < 514)
    (ex3 : c 190 (9 + v1) = x3)
    (z12 : (x1 ≤ v4) → (v2 = 1) → Q (.inl (some (aI x3))) (G, c))
    (m13 : (x1 ≤ v4) → (v2 = 2) → TM d 189 [aR 188, aI v1] (G, c) (fun r h' => T (d + 1) 190 116 [none, none, none, none, none] (r.toList ++ []) h' Q))
    (z14 : (x1 ≤ v4) → (v2 = 3) → Q (.inl (some (aI v3))) (G, c))
    (s15 : (v4 < x1) → 0 ≤ (173 + v4))
    (s16 : (v4 < x1) → (173 + v4) < 514)
    (ex4 : c 190 (173 + v4) = x4)
    (s18 : (v4 < x1) → -2147483648 ≤ x4 ∧ x4 < 2147483648)
    (s19 : (v4 < x1) → -2147483648 ≤ (v1 + 1) ∧ (v1 + 1) < 2147483648)
    (k20 : (v4 < x1) → (¬ x4 = (v1 + 1)) → T (d + 1) 190 20 [some (aR 188), some (aI v1), some (aI v2), some (aI (v3 + 0)), some (aI (v4 + 1))] [] (G, c) Q)
    (k21 : (v4 < x1) → (x4 = (v1 + 1)) → T (d + 1) 190 20 [some (aR 188), some (aI v1), some (aI v2), some (aI (v3 + 1)), some (aI (v4 + 1))] [] (G, c) Q) :
    T (d + 1) 190 20 [some (aR 188), some (aI v1), some (aI v2), some (aI v3), some (aI v4)] [] (G, c) Q := by
  refine e_L (L' := [some (aR 188), some (aI v1), some (aI v2), some (aI v3), some (aI v4)]) (st' := [aI v4]) (show decode (mC 190) 20 = .ok (.iload 4, 2) by decide +kernel) rfl rfl ?_
  refine e_L (L' := [some (aR 188), some (aI v1), some (aI v2), some (aI v3), some (aI v4)]) (st' := [aR 188, aI v4]) (show decode (mC 190) 22 = .ok (.aload_n 0, 1) by decide +kernel) rfl (by show (if 188 = 0 then none else some (_, _)) = _; rw [if_neg (by decide)]) ?_
  refine e_getR (w := 190) (show decode (mC 190) 23 = .ok (.getfield 33, 3) by decide +kernel) (show pl 12 33 = some (0, 12, 6, 0) by decide +kernel) (by decide) (sh_ok hG (by decide +kernel)) (sh_rf hG (by decide +kernel)) ?_
  refine e_P (st' := [aI 1, aR 190, aI v4]) (show decode (mC 190) 26 = .ok (.iconst 1, 1) by decide +kernel) rfl rfl rfl ?_
  refine e_ialdx (n := 514) (show decode (mC 190) 27 = .ok (.iaload, 1) by decide +kernel) (sh_ok hG (by decide +kernel)) (sh_ln hG (by decide +kernel)) (by decide) (by decide) (by decide) ex1 ?_
  refine e_ge2 (t := 62) (show decode (mC 190) 28 = .ok (.if_icmp .ge 34, 3) by decide +kernel) (by decide) s1 s2 (fun p1 => ?_) (fun p1 => ?_)
  · refine e_L (L' := [some (aR 188), some (aI v1), some (aI v2), some (aI v3), some (aI v4)]) (st' := [aI v2]) (show decode (mC 190) 62 = .ok (.iload_n 2, 1) by decide +kernel) rfl rfl ?_
    rcases (show (v2 < 0 ∨ 3 < v2) ∨ v2 = 0 ∨ v2 = 1 ∨ v2 = 2 ∨ v2 = 3 by omega) with p2 | p2 | p2 | p2 | p2
    · refine e_swd (t := 119) (show decode (mC 190) 63 = .ok (.tableswitch 56 0 3 #[29, 38, 48, 54], 29) by decide +kernel) (s3 p1) p2 (by decide) ?_
      refine e_P (st' := [aI (-1)]) (show decode (mC 190) 119 = .ok (.iconst (-1), 1) by decide +kernel) rfl rfl rfl ?_
      exact e_iret (show decode (mC 190) 120 = .ok (.ireturn, 1) by decide +kernel) rfl (z4 p1 p2)
    · refine e_swj (off := 29) (t := 92) 0 (show decode (mC 190) 63 = .ok (.tableswitch 56 0 3 #[29, 38, 48, 54], 29) by decide +kernel) p2 (by decide +kernel) ?_
      refine e_L (L' := [some (aR 188), some (aI v1), some (aI v2), some (aI v3), some (aI v4)]) (st' := [aR 188]) (show decode (mC 190) 92 = .ok (.aload_n 0, 1) by decide +kernel) rfl (by show (if 188 = 0 then none else some (_, _)) = _; rw [if_neg (by decide)]) ?_
      refine e_getR (w := 190) (show decode (mC 190) 93 = .ok (.getfield 33, 3) by decide +kernel) (show pl 12 33 = some (0, 12, 6, 0) by decide +kernel) (by decide) (sh_ok hG (by decide +kernel)) (sh_rf hG (by decide +kernel)) ?_
      refine e_P (st' := [aI 3, aR 190]) (show decode (mC 190) 96 = .ok (.iconst 3, 1) by decide +kernel) rfl rfl rfl ?_
      refine e_L (L' := [some (aR 188), some (aI v1), some (aI v2), some (aI v3), some (aI v4)]) (st' := [aI v1, aI 3, aR 190]) (show decode (mC 190) 97 = .ok (.iload_n 1, 1) by decide +kernel) rfl rfl ?_
      refine e_P (st' := [aI (3 + v1), aR 190]) (show decode (mC 190) 98 = .ok (.iadd, 1) by decide +kernel) rfl rfl rfl ?_
      refine e_ialdx (n := 514) (show decode (mC 190) 99 = .ok (.iaload, 1) by decide +kernel) (sh_ok hG (by decide +kernel)) (sh_ln hG (by decide +kernel)) (by decide) (s5 p1 p2) (s6 p1 p2) ex2 ?_
      exact e_iret (show decode (mC 190) 100 = .ok (.ireturn, 1) by decide +kernel) rfl (z8 p1 p2)
    · refine e_swj (off := 38) (t := 101) 1 (show decode (mC 190) 63 = .ok (.tableswitch 56 0 3 #[29, 38, 48, 54], 29) by decide +kernel) p2 (by decide +kernel) ?_
      refine e_L (L' := [some (aR 188), some (aI v1), some (aI v2), some (aI v3), some (aI v4)]) (st' := [aR 188]) (show decode (mC 190) 101 = .ok (.aload_n 0, 1) by decide +kernel) rfl (by show (if 188 = 0 then none else some (_, _)) = _; rw [if_neg (by decide)]) ?_
      refine e_getR (w := 190) (show decode (mC 190) 102 = .ok (.getfield 33, 3) by decide +kernel) (show pl 12 33 = some (0, 12, 6, 0) by decide +kernel) (by decide) (sh_ok hG (by decide +kernel)) (sh_rf hG (by decide +kernel)) ?_
      refine e_P (st' := [aI 9, aR 190]) (show decode (mC 190) 105 = .ok (.bipush 9, 2) by decide +kernel) rfl rfl rfl ?_
      refine e_L (L' := [some (aR 188), some (aI v1), some (aI v2), some (aI v3), some (aI v4)]) (st' := [aI v1, aI 9, aR 190]) (show decode (mC 190) 107 = .ok (.iload_n 1, 1) by decide +kernel) rfl rfl ?_
      refine e_P (st' := [aI (9 + v1), aR 190]) (show decode (mC 190) 108 = .ok (.iadd, 1) by decide +kernel) rfl rfl rfl ?_
      refine e_ialdx (n := 514) (show decode (mC 190) 109 = .ok (.iaload, 1) by decide +kernel) (sh_ok hG (by decide +kernel)) (sh_ln hG (by decide +kernel)) (by decide) (s9 p1 p2) (s10 p1 p2) ex3 ?_
      exact e_iret (show decode (mC 190) 110 = .ok (.ireturn, 1) by decide +kernel) rfl (z12 p1 p2)
    · refine e_swj (off := 48) (t := 111) 2 (show decode (mC 190) 63 = .ok (.tableswitch 56 0 3 #[29, 38, 48, 54], 29) by decide +kernel) p2 (by decide +kernel) ?_
      refine e_L (L' := [some (aR 188), some (aI v1), some (aI v2), some (aI v3), some (aI v4)]) (st' := [aR 188]) (show decode (mC 190) 111 = .ok (.aload_n 0, 1) by decide +kernel) rfl (by show (if 188 = 0 then none else some (_, _)) = _; rw [if_neg (by decide)]) ?_
      refine e_L (L' := [some (aR 188), some (aI v1), some (aI v2), some (aI v3), some (aI v4)]) (st' := [aI v1, aR 188]) (show decode (mC 190) 112 = .ok (.iload_n 1, 1) by decide +kernel) rfl rfl ?_
      exact e_V (as := [aR 188, aI v1]) (rest := []) (show decode (mC 190) 113 = .ok (.invokevirtual 244, 3) by decide +kernel) (by decide +kernel) (show (decide ((2 : Nat) = mA 189) && decide (189 < q_law)) = true by decide +kernel) rfl (show (0 : Nat) ≤ 8 by decide) (show (2 : Nat) ≤ mL 189 by decide +kernel) rfl (sh_ok hG (by decide +kernel)) (tm_le hQ (leN (leN (leN (leN (leN leE))))) (m13 p1 p2))
    · refine e_swj (off := 54) (t := 117) 3 (show decode (mC 190) 63 = .ok (.tableswitch 56 0 3 #[29, 38, 48, 54], 29) by decide +kernel) p2 (by decide +kernel) ?_
      refine e_L (L' := [some (aR 188), some (aI v1), some (aI v2), some (aI v3), some (aI v4)]) (st' := [aI v3]) (show decode (mC 190) 117 = .ok (.iload_n 3, 1) by decide +kernel) rfl rfl ?_
      exact e_iret (show decode (mC 190) 118 = .ok (.ireturn, 1) by decide +kernel) rfl (z14 p1 p2)
  · refine e_L (L' := [some (aR 188), some (aI v1), some (aI v2), some (aI v3), some (aI v4)]) (st' := [aI v3]) (show decode (mC 190) 31 = .ok (.iload_n 3, 1) by decide +kernel) rfl rfl ?_
    refine e_L (L' := [some (aR 188), some (aI v1), some (aI v2), some (aI v3), some (aI v4)]) (st' := [aR 188, aI v3]) (show decode (mC 190) 32 = .ok (.aload_n 0, 1) by decide +kernel) rfl (by show (if 188 = 0 then none else some (_, _)) = _; rw [if_neg (by decide)]) ?_
    refine e_getR (w := 190) (show decode (mC 190) 33 = .ok (.getfield 33, 3) by decide +kernel) (show pl 12 33 = some (0, 12, 6, 0) by decide +kernel) (by decide) (sh_ok hG (by decide +kernel)) (sh_rf hG (by decide +kernel)) ?_
    refine e_P (st' := [aI 173, aR 190, aI v3]) (show decode (mC 190) 36 = .ok (.sipush 173, 3) by decide +kernel) rfl rfl rfl ?_
    refine e_L (L' := [some (aR 188), some (aI v1), some (aI v2), some (aI v3), some (aI v4)]) (st' := [aI v4, aI 173, aR 190, aI v3]) (show decode (mC 190) 39 = .ok (.iload 4, 2) by decide +kernel) rfl rfl ?_
    refine e_P (st' := [aI (173 + v4), aR 190, aI v3]) (show decode (mC 190) 41 = .ok (.iadd, 1) by decide +kernel) rfl rfl rfl ?_
    refine e_ialdx (n := 514) (show decode (mC 190) 42 = .ok (.iaload, 1) by decide +kernel) (sh_ok hG (by decide +kernel)) (sh_ln hG (by decide +kernel)) (by decide) (s15 p1) (s16 p1) ex4 ?_
    refine e_L (L' := [some (aR 188), some (aI v1), some (aI v2), some (aI v3), some (aI v4)]) (st' := [aI v1, aI x4, aI v3]) (show decode (mC 190) 43 = .ok (.iload_n 1, 1) by decide +kernel) rfl rfl ?_
    refine e_P (st' := [aI 1, aI v1, aI x4, aI v3]) (show decode (mC 190) 44 = .ok (.iconst 1, 1) by decide +kernel) rfl rfl rfl ?_
    refine e_P (st' := [aI (v1 + 1), aI x4, aI v3]) (show decode (mC 190) 45 = .ok (.iadd, 1) by decide +kernel) rfl rfl rfl ?_
    refine e_ne2 (t := 53) (show decode (mC 190) 46 = .ok (.if_icmp .ne 7, 3) by decide +kernel) (by decide) (s18 p1) (s19 p1) (fun p2 => ?_) (fun p2 => ?_)
    · refine e_P (st' := [aI 0, aI v3]) (show decode (mC 190) 53 = .ok (.iconst 0, 1) by decide +kernel) rfl rfl rfl ?_
      refine e_P (st' := [aI (v3 + 0)]) (show decode (mC 190) 54 = .ok (.iadd, 1) by decide +kernel) rfl rfl rfl ?_
      refine e_L (L' := [some (aR 188), some (aI v1), some (aI v2), some (aI (v3 + 0)), some (aI v4)]) (st' := []) (show decode (mC 190) 55 = .ok (.istore_n 3, 1) by decide +kernel) rfl rfl ?_
      refine e_L (L' := [some (aR 188), some (aI v1), some (aI v2), some (aI (v3 + 0)), some (aI (v4 + 1))]) (st' := []) (show decode (mC 190) 56 = .ok (.iinc 4 1, 3) by decide +kernel) rfl rfl ?_
      refine e_go (t := 20) (show decode (mC 190) 59 = .ok (.goto (-39), 3) by decide +kernel) (by decide) ?_
      exact (k20 p1 p2)
    · refine e_P (st' := [aI 1, aI v3]) (show decode (mC 190) 49 = .ok (.iconst 1, 1) by decide +kernel) rfl rfl rfl ?_
      refine e_go (t := 54) (show decode (mC 190) 50 = .ok (.goto 4, 3) by decide +kernel) (by decide) ?_
      refine e_P (st' := [aI (v3 + 1)]) (show decode (mC 190) 54 = .ok (.iadd, 1) by decide +kernel) rfl rfl rfl ?_
      refine e_L (L' := [some (aR 188), some (aI v1), some (aI v2), some (aI (v3 + 1)), some (aI v4)]) (st' := []) (show decode (mC 190) 55 = .ok (.istore_n 3, 1) by decide +kernel) rfl rfl ?_
      refine e_L (L' := [some (aR 188), some (aI v1), some (aI v2), some (aI (v3 + 1)), some (aI (v4 + 1))]) (st' := []) (show decode (mC 190) 56 = .ok (.iinc 4 1, 3) by decide +kernel) rfl rfl ?_
      refine e_go (t := 20) (show decode (mC 190) 59 = .ok (.goto (-39), 3) by decide +kernel) (by decide) ?_
      exact (k21 p1 p2)
/-- SoulOfficeModel.kind(II)I, from 116 -/
theorem b190_116 (hG : Shp G) {u0 : Int}
    (z0 : Q (.inl (some (aI u0))) (G, c)) :
    T (d + 1) 190 116 [none, none, none, none, none] [aI u0] (G, c) Q := by
  exact e_iret (show decode (mC 190) 116 = .ok (.ireturn, 1) by decide +kernel) rfl z0
/-- SoulOfficeModel.meets(II)I, from 0 -/
theorem b191_0 (hG : Shp G) {v1 v2 : Int}
    (m0 : TM d 187 [aR 188, aI v1] (G, (q_up c 188 0 0)) (fun r h' => T (d + 1) 191 10 [some (aR 188), some (aI v1), some (aI v2)] (r.toList ++ []) h' Q)) :
    T (d + 1) 191 0 [some (aR 188), some (aI v1), some (aI v2)] [] (G, c) Q := by
  refine e_L (L' := [some (aR 188), some (aI v1), some (aI v2)]) (st' := [aR 188]) (show decode (mC 191) 0 = .ok (.aload_n 0, 1) by decide +kernel) rfl (by show (if 188 = 0 then none else some (_, _)) = _; rw [if_neg (by decide)]) ?_
  refine e_P (st' := [aI 0, aR 188]) (show decode (mC 191) 1 = .ok (.iconst 0, 1) by decide +kernel) rfl rfl rfl ?_
  refine e_putI (show decode (mC 191) 2 = .ok (.putfield 1, 3) by decide +kernel) (show pl 12 1 = some (0, 12, 0, 0) by decide +kernel) (by decide) (sh_ok hG (by decide +kernel)) ?_
  refine e_L (L' := [some (aR 188), some (aI v1), some (aI v2)]) (st' := [aR 188]) (show decode (mC 191) 5 = .ok (.aload_n 0, 1) by decide +kernel) rfl (by show (if 188 = 0 then none else some (_, _)) = _; rw [if_neg (by decide)]) ?_
  refine e_L (L' := [some (aR 188), some (aI v1), some (aI v2)]) (st' := [aI v1, aR 188]) (show decode (mC 191) 6 = .ok (.iload_n 1, 1) by decide +kernel) rfl rfl ?_
  exact e_V (as := [aR 188, aI v1]) (rest := []) (show decode (mC 191) 7 = .ok (.invokevirtual 241, 3) by decide +kernel) (by decide +kernel) (show (decide ((2 : Nat) = mA 187) && decide (187 < q_law)) = true by decide +kernel) rfl (show (0 : Nat) ≤ 8 by decide) (show (2 : Nat) ≤ mL 187 by decide +kernel) rfl (sh_ok hG (by decide +kernel)) m0
/-- SoulOfficeModel.meets(II)I, from 10 -/
theorem b191_10 (hG : Shp G) {v1 v2 u0 : Int}
    (s0 : -2147483648 ≤ u0 ∧ u0 < 2147483648)
    (z1 : (u0 = 0) → Q (.inl (some (aI (-1)))) (G, c))
    (m2 : (¬ u0 = 0) → TM d 187 [aR 188, aI v2] (G, c) (fun r h' => T (d + 1) 191 18 [some (aR 188), some (aI v1), some (aI v2)] (r.toList ++ []) h' Q)) :
    T (d + 1) 191 10 [some (aR 188), some (aI v1), some (aI v2)] [aI u0] (G, c) Q := by
  refine e_eq1 (t := 38) (show decode (mC 191) 10 = .ok (.ifCond .eq 28, 3) by decide +kernel) (by decide) s0 (fun p1 => ?_) (fun p1 => ?_)
  · refine e_P (st' := [aI (-1)]) (show decode (mC 191) 38 = .ok (.iconst (-1), 1) by decide +kernel) rfl rfl rfl ?_
    exact e_iret (show decode (mC 191) 39 = .ok (.ireturn, 1) by decide +kernel) rfl (z1 p1)
  · refine e_L (L' := [some (aR 188), some (aI v1), some (aI v2)]) (st' := [aR 188]) (show decode (mC 191) 13 = .ok (.aload_n 0, 1) by decide +kernel) rfl (by show (if 188 = 0 then none else some (_, _)) = _; rw [if_neg (by decide)]) ?_
    refine e_L (L' := [some (aR 188), some (aI v1), some (aI v2)]) (st' := [aI v2, aR 188]) (show decode (mC 191) 14 = .ok (.iload_n 2, 1) by decide +kernel) rfl rfl ?_
    exact e_V (as := [aR 188, aI v2]) (rest := []) (show decode (mC 191) 15 = .ok (.invokevirtual 241, 3) by decide +kernel) (by decide +kernel) (show (decide ((2 : Nat) = mA 187) && decide (187 < q_law)) = true by decide +kernel) rfl (show (0 : Nat) ≤ 8 by decide) (show (2 : Nat) ≤ mL 187 by decide +kernel) rfl (sh_ok hG (by decide +kernel)) (m2 p1)
/-- SoulOfficeModel.meets(II)I, from 18 -/
theorem b191_18 (hG : Shp G) {v1 v2 u0 x1 : Int}
    (s0 : -2147483648 ≤ u0 ∧ u0 < 2147483648)
    (z1 : (u0 = 0) → Q (.inl (some (aI (-1)))) (G, c))
    (s2 : (¬ u0 = 0) → 0 ≤ ((15 + (6 * v1)) + v2))
    (s3 : (¬ u0 = 0) → ((15 + (6 * v1)) + v2) < 514)
    (ex1 : c 190 ((15 + (6 * v1)) + v2) = x1)
    (z5 : (¬ u0 = 0) → Q (.inl (some (aI x1))) (G, c)) :
    T (d + 1) 191 18 [some (aR 188), some (aI v1), some (aI v2)] [aI u0] (G, c) Q := by
  refine e_eq1 (t := 38) (show decode (mC 191) 18 = .ok (.ifCond .eq 20, 3) by decide +kernel) (by decide) s0 (fun p1 => ?_) (fun p1 => ?_)
  · refine e_P (st' := [aI (-1)]) (show decode (mC 191) 38 = .ok (.iconst (-1), 1) by decide +kernel) rfl rfl rfl ?_
    exact e_iret (show decode (mC 191) 39 = .ok (.ireturn, 1) by decide +kernel) rfl (z1 p1)
  · refine e_L (L' := [some (aR 188), some (aI v1), some (aI v2)]) (st' := [aR 188]) (show decode (mC 191) 21 = .ok (.aload_n 0, 1) by decide +kernel) rfl (by show (if 188 = 0 then none else some (_, _)) = _; rw [if_neg (by decide)]) ?_
    refine e_getR (w := 190) (show decode (mC 191) 22 = .ok (.getfield 33, 3) by decide +kernel) (show pl 12 33 = some (0, 12, 6, 0) by decide +kernel) (by decide) (sh_ok hG (by decide +kernel)) (sh_rf hG (by decide +kernel)) ?_
    refine e_P (st' := [aI 15, aR 190]) (show decode (mC 191) 25 = .ok (.bipush 15, 2) by decide +kernel) rfl rfl rfl ?_
    refine e_P (st' := [aI 6, aI 15, aR 190]) (show decode (mC 191) 27 = .ok (.bipush 6, 2) by decide +kernel) rfl rfl rfl ?_
    refine e_L (L' := [some (aR 188), some (aI v1), some (aI v2)]) (st' := [aI v1, aI 6, aI 15, aR 190]) (show decode (mC 191) 29 = .ok (.iload_n 1, 1) by decide +kernel) rfl rfl ?_
    refine e_P (st' := [aI (6 * v1), aI 15, aR 190]) (show decode (mC 191) 30 = .ok (.imul, 1) by decide +kernel) rfl rfl rfl ?_
    refine e_P (st' := [aI (15 + (6 * v1)), aR 190]) (show decode (mC 191) 31 = .ok (.iadd, 1) by decide +kernel) rfl rfl rfl ?_
    refine e_L (L' := [some (aR 188), some (aI v1), some (aI v2)]) (st' := [aI v2, aI (15 + (6 * v1)), aR 190]) (show decode (mC 191) 32 = .ok (.iload_n 2, 1) by decide +kernel) rfl rfl ?_
    refine e_P (st' := [aI ((15 + (6 * v1)) + v2), aR 190]) (show decode (mC 191) 33 = .ok (.iadd, 1) by decide +kernel) rfl rfl rfl ?_
    refine e_ialdx (n := 514) (show decode (mC 191) 34 = .ok (.iaload, 1) by decide +kernel) (sh_ok hG (by decide +kernel)) (sh_ln hG (by decide +kernel)) (by decide) (s2 p1) (s3 p1) ex1 ?_
    refine e_go (t := 39) (show decode (mC 191) 35 = .ok (.goto 4, 3) by decide +kernel) (by decide) ?_
    exact e_iret (show decode (mC 191) 39 = .ok (.ireturn, 1) by decide +kernel) rfl (z5 p1)
/-- SoulOfficeModel.debtsOf(I)I, from 0 -/
theorem b192_0 (hG : Shp G) {v1 : Int}
    (k0 : T d 192 4 [some (aR 188), some (aI v1), some (aI 0), some (aI 0)] [] (G, c) Q) :
    T d 192 0 [some (aR 188), some (aI v1), none, none] [] (G, c) Q := by
  refine e_P (st' := [aI 0]) (show decode (mC 192) 0 = .ok (.iconst 0, 1) by decide +kernel) rfl rfl rfl ?_
  refine e_L (L' := [some (aR 188), some (aI v1), some (aI 0), none]) (st' := []) (show decode (mC 192) 1 = .ok (.istore_n 2, 1) by decide +kernel) rfl rfl ?_
  refine e_P (st' := [aI 0]) (show decode (mC 192) 2 = .ok (.iconst 0, 1) by decide +kernel) rfl rfl rfl ?_
  refine e_L (L' := [some (aR 188), some (aI v1), some (aI 0), some (aI 0)]) (st' := []) (show decode (mC 192) 3 = .ok (.istore_n 3, 1) by decide +kernel) rfl rfl ?_
  exact k0
/-- SoulOfficeModel.debtsOf(I)I, from 4 -/
theorem b192_4 (hG : Shp G) {v1 v2 v3 x1 : Int}
    (s0 : -2147483648 ≤ v3 ∧ v3 < 2147483648)
    (z1 : (8 ≤ v3) → Q (.inl (some (aI v2))) (G, c))
    (s2 : (v3 < 8) → 0 ≤ ((205 + (8 * v1)) + v3))
    (s3 : (v3 < 8) → ((205 + (8 * v1)) + v3) < 514)
    (ex1 : c 190 ((205 + (8 * v1)) + v3) = x1)
    (k5 : (v3 < 8) → T d 192 4 [some (aR 188), some (aI v1), some (aI (v2 + x1)), some (aI (v3 + 1))] [] (G, c) Q) :
    T d 192 4 [some (aR 188), some (aI v1), some (aI v2), some (aI v3)] [] (G, c) Q := by
  refine e_L (L' := [some (aR 188), some (aI v1), some (aI v2), some (aI v3)]) (st' := [aI v3]) (show decode (mC 192) 4 = .ok (.iload_n 3, 1) by decide +kernel) rfl rfl ?_
  refine e_P (st' := [aI 8, aI v3]) (show decode (mC 192) 5 = .ok (.bipush 8, 2) by decide +kernel) rfl rfl rfl ?_
  refine e_ge2 (t := 34) (show decode (mC 192) 7 = .ok (.if_icmp .ge 27, 3) by decide +kernel) (by decide) s0 (by decide) (fun p1 => ?_) (fun p1 => ?_)
  · refine e_L (L' := [some (aR 188), some (aI v1), some (aI v2), some (aI v3)]) (st' := [aI v2]) (show decode (mC 192) 34 = .ok (.iload_n 2, 1) by decide +kernel) rfl rfl ?_
    exact e_iret (show decode (mC 192) 35 = .ok (.ireturn, 1) by decide +kernel) rfl (z1 p1)
  · refine e_L (L' := [some (aR 188), some (aI v1), some (aI v2), some (aI v3)]) (st' := [aI v2]) (show decode (mC 192) 10 = .ok (.iload_n 2, 1) by decide +kernel) rfl rfl ?_
    refine e_L (L' := [some (aR 188), some (aI v1), some (aI v2), some (aI v3)]) (st' := [aR 188, aI v2]) (show decode (mC 192) 11 = .ok (.aload_n 0, 1) by decide +kernel) rfl (by show (if 188 = 0 then none else some (_, _)) = _; rw [if_neg (by decide)]) ?_
    refine e_getR (w := 190) (show decode (mC 192) 12 = .ok (.getfield 33, 3) by decide +kernel) (show pl 12 33 = some (0, 12, 6, 0) by decide +kernel) (by decide) (sh_ok hG (by decide +kernel)) (sh_rf hG (by decide +kernel)) ?_
    refine e_P (st' := [aI 205, aR 190, aI v2]) (show decode (mC 192) 15 = .ok (.sipush 205, 3) by decide +kernel) rfl rfl rfl ?_
    refine e_P (st' := [aI 8, aI 205, aR 190, aI v2]) (show decode (mC 192) 18 = .ok (.bipush 8, 2) by decide +kernel) rfl rfl rfl ?_
    refine e_L (L' := [some (aR 188), some (aI v1), some (aI v2), some (aI v3)]) (st' := [aI v1, aI 8, aI 205, aR 190, aI v2]) (show decode (mC 192) 20 = .ok (.iload_n 1, 1) by decide +kernel) rfl rfl ?_
    refine e_P (st' := [aI (8 * v1), aI 205, aR 190, aI v2]) (show decode (mC 192) 21 = .ok (.imul, 1) by decide +kernel) rfl rfl rfl ?_
    refine e_P (st' := [aI (205 + (8 * v1)), aR 190, aI v2]) (show decode (mC 192) 22 = .ok (.iadd, 1) by decide +kernel) rfl rfl rfl ?_
    refine e_L (L' := [some (aR 188), some (aI v1), some (aI v2), some (aI v3)]) (st' := [aI v3, aI (205 + (8 * v1)), aR 190, aI v2]) (show decode (mC 192) 23 = .ok (.iload_n 3, 1) by decide +kernel) rfl rfl ?_
    refine e_P (st' := [aI ((205 + (8 * v1)) + v3), aR 190, aI v2]) (show decode (mC 192) 24 = .ok (.iadd, 1) by decide +kernel) rfl rfl rfl ?_
    refine e_ialdx (n := 514) (show decode (mC 192) 25 = .ok (.iaload, 1) by decide +kernel) (sh_ok hG (by decide +kernel)) (sh_ln hG (by decide +kernel)) (by decide) (s2 p1) (s3 p1) ex1 ?_
    refine e_P (st' := [aI (v2 + x1)]) (show decode (mC 192) 26 = .ok (.iadd, 1) by decide +kernel) rfl rfl rfl ?_
    refine e_L (L' := [some (aR 188), some (aI v1), some (aI (v2 + x1)), some (aI v3)]) (st' := []) (show decode (mC 192) 27 = .ok (.istore_n 2, 1) by decide +kernel) rfl rfl ?_
    refine e_L (L' := [some (aR 188), some (aI v1), some (aI (v2 + x1)), some (aI (v3 + 1))]) (st' := []) (show decode (mC 192) 28 = .ok (.iinc 3 1, 3) by decide +kernel) rfl rfl ?_
    refine e_go (t := 4) (show decode (mC 192) 31 = .ok (.goto (-27), 3) by decide +kernel) (by decide) ?_
    exact (k5 p1)
/-- SoulOfficeModel.duesOf(I)I, from 0 -/
theorem b193_0 (hG : Shp G) {v1 : Int}
    (k0 : T d 193 4 [some (aR 188), some (aI v1), some (aI 0), some (aI 0)] [] (G, c) Q) :
    T d 193 0 [some (aR 188), some (aI v1), none, none] [] (G, c) Q := by
  refine e_P (st' := [aI 0]) (show decode (mC 193) 0 = .ok (.iconst 0, 1) by decide +kernel) rfl rfl rfl ?_
  refine e_L (L' := [some (aR 188), some (aI v1), some (aI 0), none]) (st' := []) (show decode (mC 193) 1 = .ok (.istore_n 2, 1) by decide +kernel) rfl rfl ?_
  refine e_P (st' := [aI 0]) (show decode (mC 193) 2 = .ok (.iconst 0, 1) by decide +kernel) rfl rfl rfl ?_
  refine e_L (L' := [some (aR 188), some (aI v1), some (aI 0), some (aI 0)]) (st' := []) (show decode (mC 193) 3 = .ok (.istore_n 3, 1) by decide +kernel) rfl rfl ?_
  exact k0
/-- SoulOfficeModel.duesOf(I)I, from 4 -/
theorem b193_4 (hG : Shp G) {v1 v2 v3 x1 : Int}
    (s0 : -2147483648 ≤ v3 ∧ v3 < 2147483648)
    (z1 : (8 ≤ v3) → Q (.inl (some (aI v2))) (G, c))
    (s2 : (v3 < 8) → 0 ≤ ((205 + (8 * v3)) + v1))
    (s3 : (v3 < 8) → ((205 + (8 * v3)) + v1) < 514)
    (ex1 : c 190 ((205 + (8 * v3)) + v1) = x1)
    (k5 : (v3 < 8) → T d 193 4 [some (aR 188), some (aI v1), some (aI (v2 + x1)), some (aI (v3 + 1))] [] (G, c) Q) :
    T d 193 4 [some (aR 188), some (aI v1), some (aI v2), some (aI v3)] [] (G, c) Q := by
  refine e_L (L' := [some (aR 188), some (aI v1), some (aI v2), some (aI v3)]) (st' := [aI v3]) (show decode (mC 193) 4 = .ok (.iload_n 3, 1) by decide +kernel) rfl rfl ?_
  refine e_P (st' := [aI 8, aI v3]) (show decode (mC 193) 5 = .ok (.bipush 8, 2) by decide +kernel) rfl rfl rfl ?_
  refine e_ge2 (t := 34) (show decode (mC 193) 7 = .ok (.if_icmp .ge 27, 3) by decide +kernel) (by decide) s0 (by decide) (fun p1 => ?_) (fun p1 => ?_)
  · refine e_L (L' := [some (aR 188), some (aI v1), some (aI v2), some (aI v3)]) (st' := [aI v2]) (show decode (mC 193) 34 = .ok (.iload_n 2, 1) by decide +kernel) rfl rfl ?_
    exact e_iret (show decode (mC 193) 35 = .ok (.ireturn, 1) by decide +kernel) rfl (z1 p1)
  · refine e_L (L' := [some (aR 188), some (aI v1), some (aI v2), some (aI v3)]) (st' := [aI v2]) (show decode (mC 193) 10 = .ok (.iload_n 2, 1) by decide +kernel) rfl rfl ?_
    refine e_L (L' := [some (aR 188), some (aI v1), some (aI v2), some (aI v3)]) (st' := [aR 188, aI v2]) (show decode (mC 193) 11 = .ok (.aload_n 0, 1) by decide +kernel) rfl (by show (if 188 = 0 then none else some (_, _)) = _; rw [if_neg (by decide)]) ?_
    refine e_getR (w := 190) (show decode (mC 193) 12 = .ok (.getfield 33, 3) by decide +kernel) (show pl 12 33 = some (0, 12, 6, 0) by decide +kernel) (by decide) (sh_ok hG (by decide +kernel)) (sh_rf hG (by decide +kernel)) ?_
    refine e_P (st' := [aI 205, aR 190, aI v2]) (show decode (mC 193) 15 = .ok (.sipush 205, 3) by decide +kernel) rfl rfl rfl ?_
    refine e_P (st' := [aI 8, aI 205, aR 190, aI v2]) (show decode (mC 193) 18 = .ok (.bipush 8, 2) by decide +kernel) rfl rfl rfl ?_
    refine e_L (L' := [some (aR 188), some (aI v1), some (aI v2), some (aI v3)]) (st' := [aI v3, aI 8, aI 205, aR 190, aI v2]) (show decode (mC 193) 20 = .ok (.iload_n 3, 1) by decide +kernel) rfl rfl ?_
    refine e_P (st' := [aI (8 * v3), aI 205, aR 190, aI v2]) (show decode (mC 193) 21 = .ok (.imul, 1) by decide +kernel) rfl rfl rfl ?_
    refine e_P (st' := [aI (205 + (8 * v3)), aR 190, aI v2]) (show decode (mC 193) 22 = .ok (.iadd, 1) by decide +kernel) rfl rfl rfl ?_
    refine e_L (L' := [some (aR 188), some (aI v1), some (aI v2), some (aI v3)]) (st' := [aI v1, aI (205 + (8 * v3)), aR 190, aI v2]) (show decode (mC 193) 23 = .ok (.iload_n 1, 1) by decide +kernel) rfl rfl ?_
    refine e_P (st' := [aI ((205 + (8 * v3)) + v1), aR 190, aI v2]) (show decode (mC 193) 24 = .ok (.iadd, 1) by decide +kernel) rfl rfl rfl ?_
    refine e_ialdx (n := 514) (show decode (mC 193) 25 = .ok (.iaload, 1) by decide +kernel) (sh_ok hG (by decide +kernel)) (sh_ln hG (by decide +kernel)) (by decide) (s2 p1) (s3 p1) ex1 ?_
    refine e_P (st' := [aI (v2 + x1)]) (show decode (mC 193) 26 = .ok (.iadd, 1) by decide +kernel) rfl rfl rfl ?_
    refine e_L (L' := [some (aR 188), some (aI v1), some (aI (v2 + x1)), some (aI v3)]) (st' := []) (show decode (mC 193) 27 = .ok (.istore_n 2, 1) by decide +kernel) rfl rfl ?_
    refine e_L (L' := [some (aR 188), some (aI v1), some (aI (v2 + x1)), some (aI (v3 + 1))]) (st' := []) (show decode (mC 193) 28 = .ok (.iinc 3 1, 3) by decide +kernel) rfl rfl ?_
    refine e_go (t := 4) (show decode (mC 193) 31 = .ok (.goto (-27), 3) by decide +kernel) (by decide) ?_
    exact (k5 p1)
/-- SoulOfficeModel.soul(II)I, from 0 -/
theorem b194_0 (hG : Shp G) {v1 v2 : Int}
    (m0 : TM d 188 [aR 188, aI v1] (G, c) (fun r h' => T (d + 1) 194 6 [some (aR 188), some (aI v1), some (aI v2)] (r.toList ++ [aR 188]) h' Q)) :
    T (d + 1) 194 0 [some (aR 188), some (aI v1), some (aI v2)] [] (G, c) Q := by
  refine e_L (L' := [some (aR 188), some (aI v1), some (aI v2)]) (st' := [aR 188]) (show decode (mC 194) 0 = .ok (.aload_n 0, 1) by decide +kernel) rfl (by show (if 188 = 0 then none else some (_, _)) = _; rw [if_neg (by decide)]) ?_
  refine e_L (L' := [some (aR 188), some (aI v1), some (aI v2)]) (st' := [aR 188, aR 188]) (show decode (mC 194) 1 = .ok (.aload_n 0, 1) by decide +kernel) rfl (by show (if 188 = 0 then none else some (_, _)) = _; rw [if_neg (by decide)]) ?_
  refine e_L (L' := [some (aR 188), some (aI v1), some (aI v2)]) (st' := [aI v1, aR 188, aR 188]) (show decode (mC 194) 2 = .ok (.iload_n 1, 1) by decide +kernel) rfl rfl ?_
  exact e_V (as := [aR 188, aI v1]) (rest := [aR 188]) (show decode (mC 194) 3 = .ok (.invokevirtual 248, 3) by decide +kernel) (by decide +kernel) (show (decide ((2 : Nat) = mA 188) && decide (188 < q_law)) = true by decide +kernel) rfl (show (1 : Nat) ≤ 8 by decide) (show (2 : Nat) ≤ mL 188 by decide +kernel) rfl (sh_ok hG (by decide +kernel)) m0
/-- SoulOfficeModel.soul(II)I, from 6 -/
theorem b194_6 (hG : Shp G) {v1 v2 u1 : Int}
    (s0 : -2147483648 ≤ u1 ∧ u1 < 2147483648)
    (m1 : (u1 = 0) → TM d 159 [aR 188, aI 1] (G, c) (fun r h' => T (d + 1) 194 27 [some (aR 188), some (aI v1), some (aI v2)] (r.toList ++ []) h' Q))
    (m2 : (¬ u1 = 0) → TM d 164 [aI v2, aI 0, aI 7] (G, c) (fun r h' => T (d + 1) 194 16 [some (aR 188), some (aI v1), some (aI v2)] (r.toList ++ [aR 188]) h' Q)) :
    T (d + 1) 194 6 [some (aR 188), some (aI v1), some (aI v2)] [aI u1, aR 188] (G, c) Q := by
  refine e_eq1 (t := 19) (show decode (mC 194) 6 = .ok (.ifCond .eq 13, 3) by decide +kernel) (by decide) s0 (fun p1 => ?_) (fun p1 => ?_)
  · refine e_P (st' := [aI 1, aR 188]) (show decode (mC 194) 19 = .ok (.iconst 1, 1) by decide +kernel) rfl rfl rfl ?_
    refine e_go (t := 24) (show decode (mC 194) 20 = .ok (.goto 4, 3) by decide +kernel) (by decide) ?_
    exact e_V (as := [aR 188, aI 1]) (rest := []) (show decode (mC 194) 24 = .ok (.invokevirtual 251, 3) by decide +kernel) (by decide +kernel) (show (decide ((2 : Nat) = mA 159) && decide (159 < q_law)) = true by decide +kernel) rfl (show (0 : Nat) ≤ 8 by decide) (show (2 : Nat) ≤ mL 159 by decide +kernel) rfl (sh_ok hG (by decide +kernel)) (m1 p1)
  · refine e_L (L' := [some (aR 188), some (aI v1), some (aI v2)]) (st' := [aI v2, aR 188]) (show decode (mC 194) 9 = .ok (.iload_n 2, 1) by decide +kernel) rfl rfl ?_
    refine e_P (st' := [aI 0, aI v2, aR 188]) (show decode (mC 194) 10 = .ok (.iconst 0, 1) by decide +kernel) rfl rfl rfl ?_
    refine e_P (st' := [aI 7, aI 0, aI v2, aR 188]) (show decode (mC 194) 11 = .ok (.bipush 7, 2) by decide +kernel) rfl rfl rfl ?_
    exact e_S (as := [aI v2, aI 0, aI 7]) (rest := [aR 188]) (show decode (mC 194) 13 = .ok (.invokestatic 184, 3) by decide +kernel) (by decide +kernel) (show (decide ((3 : Nat) = mA 164) && decide (164 < q_law)) = true by decide +kernel) rfl (show (1 : Nat) ≤ 8 by decide) (show (3 : Nat) ≤ mL 164 by decide +kernel) (m2 p1)
/-- SoulOfficeModel.soul(II)I, from 16 -/
theorem b194_16 (hG : Shp G) {v1 v2 u1 : Int}
    (s0 : -2147483648 ≤ u1 ∧ u1 < 2147483648)
    (m1 : (¬ u1 = 0) → TM d 159 [aR 188, aI 0] (G, c) (fun r h' => T (d + 1) 194 27 [some (aR 188), some (aI v1), some (aI v2)] (r.toList ++ []) h' Q))
    (m2 : (u1 = 0) → TM d 159 [aR 188, aI 1] (G, c) (fun r h' => T (d + 1) 194 27 [some (aR 188), some (aI v1), some (aI v2)] (r.toList ++ []) h' Q)) :
    T (d + 1) 194 16 [some (aR 188), some (aI v1), some (aI v2)] [aI u1, aR 188] (G, c) Q := by
  refine e_ne1 (t := 23) (show decode (mC 194) 16 = .ok (.ifCond .ne 7, 3) by decide +kernel) (by decide) s0 (fun p1 => ?_) (fun p1 => ?_)
  · refine e_P (st' := [aI 0, aR 188]) (show decode (mC 194) 23 = .ok (.iconst 0, 1) by decide +kernel) rfl rfl rfl ?_
    exact e_V (as := [aR 188, aI 0]) (rest := []) (show decode (mC 194) 24 = .ok (.invokevirtual 251, 3) by decide +kernel) (by decide +kernel) (show (decide ((2 : Nat) = mA 159) && decide (159 < q_law)) = true by decide +kernel) rfl (show (0 : Nat) ≤ 8 by decide) (show (2 : Nat) ≤ mL 159 by decide +kernel) rfl (sh_ok hG (by decide +kernel)) (m1 p1)
  · refine e_P (st' := [aI 1, aR 188]) (show decode (mC 194) 19 = .ok (.iconst 1, 1) by decide +kernel) rfl rfl rfl ?_
    refine e_go (t := 24) (show decode (mC 194) 20 = .ok (.goto 4, 3) by decide +kernel) (by decide) ?_
    exact e_V (as := [aR 188, aI 1]) (rest := []) (show decode (mC 194) 24 = .ok (.invokevirtual 251, 3) by decide +kernel) (by decide +kernel) (show (decide ((2 : Nat) = mA 159) && decide (159 < q_law)) = true by decide +kernel) rfl (show (0 : Nat) ≤ 8 by decide) (show (2 : Nat) ≤ mL 159 by decide +kernel) rfl (sh_ok hG (by decide +kernel)) (m2 p1)
/-- SoulOfficeModel.soul(II)I, from 27 -/
theorem b194_27 (hG : Shp G) {v1 v2 u0 x1 x2 x3 x4 x5 x6 : Int} (hQ : ∀ o o' h', q_eqo o o' → Q o h' → Q o' h')
    (s0 : -2147483648 ≤ u0 ∧ u0 < 2147483648)
    (s1 : (u0 = 0) → -2147483648 ≤ v2 ∧ v2 < 2147483648)
    (s2 : (u0 = 0) → (v2 < 0 ∨ 6 < v2) → 0 ≤ (197 + v1))
    (s3 : (u0 = 0) → (v2 < 0 ∨ 6 < v2) → (197 + v1) < 514)
    (ex1 : c 190 (197 + v1) = x1)
    (z5 : (u0 = 0) → (v2 < 0 ∨ 6 < v2) → Q (.inl (some (aI x1))) (G, c))
    (s6 : (u0 = 0) → (v2 = 0) → 0 ≤ (173 + v1))
    (s7 : (u0 = 0) → (v2 = 0) → (173 + v1) < 514)
    (ex2 : c 190 (173 + v1) = x2)
    (z9 : (u0 = 0) → (v2 = 0) → Q (.inl (some (aI (x2 - 1)))) (G, c))
    (s10 : (u0 = 0) → (v2 = 1) → 0 ≤ (181 + v1))
    (s11 : (u0 = 0) → (v2 = 1) → (181 + v1) < 514)
    (ex3 : c 190 (181 + v1) = x3)
    (z13 : (u0 = 0) → (v2 = 1) → Q (.inl (some (aI x3))) (G, c))
    (s14 : (u0 = 0) → (v2 = 2) → 0 ≤ (189 + v1))
    (s15 : (u0 = 0) → (v2 = 2) → (189 + v1) < 514)
    (ex4 : c 190 (189 + v1) = x4)
    (z17 : (u0 = 0) → (v2 = 2) → Q (.inl (some (aI x4))) (G, c))
    (s18 : (u0 = 0) → (v2 = 3) → 0 ≤ (51 + v1))
    (s19 : (u0 = 0) → (v2 = 3) → (51 + v1) < 514)
    (ex5 : c 190 (51 + v1) = x5)
    (z21 : (u0 = 0) → (v2 = 3) → Q (.inl (some (aI x5))) (G, c))
    (s22 : (u0 = 0) → (v2 = 4) → 0 ≤ (59 + v1))
    (s23 : (u0 = 0) → (v2 = 4) → (59 + v1) < 514)
    (ex6 : c 190 (59 + v1) = x6)
    (z25 : (u0 = 0) → (v2 = 4) → Q (.inl (some (aI (x6 - 1)))) (G, c))
    (m26 : (u0 = 0) → (v2 = 5) → TM d 192 [aR 188, aI v1] (G, c) (fun r h' => T (d + 1) 194 138 [none, none, none] (r.toList ++ []) h' Q))
    (m27 : (u0 = 0) → (v2 = 6) → TM d 193 [aR 188, aI v1] (G, c) (fun r h' => T (d + 1) 194 144 [none, none, none] (r.toList ++ []) h' Q))
    (z28 : (¬ u0 = 0) → Q (.inl (some (aI 0))) (G, c)) :
    T (d + 1) 194 27 [some (aR 188), some (aI v1), some (aI v2)] [aI u0] (G, c) Q := by
  refine e_eq1 (t := 32) (show decode (mC 194) 27 = .ok (.ifCond .eq 5, 3) by decide +kernel) (by decide) s0 (fun p1 => ?_) (fun p1 => ?_)
  · refine e_L (L' := [some (aR 188), some (aI v1), some (aI v2)]) (st' := [aI v2]) (show decode (mC 194) 32 = .ok (.iload_n 2, 1) by decide +kernel) rfl rfl ?_
    rcases (show (v2 < 0 ∨ 6 < v2) ∨ v2 = 0 ∨ v2 = 1 ∨ v2 = 2 ∨ v2 = 3 ∨ v2 = 4 ∨ v2 = 5 ∨ v2 = 6 by omega) with p2 | p2 | p2 | p2 | p2 | p2 | p2 | p2
    · refine e_swd (t := 145) (show decode (mC 194) 33 = .ok (.tableswitch 112 0 6 #[43, 56, 67, 78, 88, 100, 106], 43) by decide +kernel) (s1 p1) p2 (by decide) ?_
      refine e_L (L' := [some (aR 188), some (aI v1), some (aI v2)]) (st' := [aR 188]) (show decode (mC 194) 145 = .ok (.aload_n 0, 1) by decide +kernel) rfl (by show (if 188 = 0 then none else some (_, _)) = _; rw [if_neg (by decide)]) ?_
      refine e_getR (w := 190) (show decode (mC 194) 146 = .ok (.getfield 33, 3) by decide +kernel) (show pl 12 33 = some (0, 12, 6, 0) by decide +kernel) (by decide) (sh_ok hG (by decide +kernel)) (sh_rf hG (by decide +kernel)) ?_
      refine e_P (st' := [aI 197, aR 190]) (show decode (mC 194) 149 = .ok (.sipush 197, 3) by decide +kernel) rfl rfl rfl ?_
      refine e_L (L' := [some (aR 188), some (aI v1), some (aI v2)]) (st' := [aI v1, aI 197, aR 190]) (show decode (mC 194) 152 = .ok (.iload_n 1, 1) by decide +kernel) rfl rfl ?_
      refine e_P (st' := [aI (197 + v1), aR 190]) (show decode (mC 194) 153 = .ok (.iadd, 1) by decide +kernel) rfl rfl rfl ?_
      refine e_ialdx (n := 514) (show decode (mC 194) 154 = .ok (.iaload, 1) by decide +kernel) (sh_ok hG (by decide +kernel)) (sh_ln hG (by decide +kernel)) (by decide) (s2 p1 p2) (s3 p1 p2) ex1 ?_
      exact e_iret (show decode (mC 194) 155 = .ok (.ireturn, 1) by decide +kernel) rfl (z5 p1 p2)
    · refine e_swj (off := 43) (t := 76) 0 (show decode (mC 194) 33 = .ok (.tableswitch 112 0 6 #[43, 56, 67, 78, 88, 100, 106], 43) by decide +kernel) p2 (by decide +kernel) ?_
      refine e_L (L' := [some (aR 188), some (aI v1), some (aI v2)]) (st' := [aR 188]) (show decode (mC 194) 76 = .ok (.aload_n 0, 1) by decide +kernel) rfl (by show (if 188 = 0 then none else some (_, _)) = _; rw [if_neg (by decide)]) ?_
      refine e_getR (w := 190) (show decode (mC 194) 77 = .ok (.getfield 33, 3) by decide +kernel) (show pl 12 33 = some (0, 12, 6, 0) by decide +kernel) (by decide) (sh_ok hG (by decide +kernel)) (sh_rf hG (by decide +kernel)) ?_
      refine e_P (st' := [aI 173, aR 190]) (show decode (mC 194) 80 = .ok (.sipush 173, 3) by decide +kernel) rfl rfl rfl ?_
      refine e_L (L' := [some (aR 188), some (aI v1), some (aI v2)]) (st' := [aI v1, aI 173, aR 190]) (show decode (mC 194) 83 = .ok (.iload_n 1, 1) by decide +kernel) rfl rfl ?_
      refine e_P (st' := [aI (173 + v1), aR 190]) (show decode (mC 194) 84 = .ok (.iadd, 1) by decide +kernel) rfl rfl rfl ?_
      refine e_ialdx (n := 514) (show decode (mC 194) 85 = .ok (.iaload, 1) by decide +kernel) (sh_ok hG (by decide +kernel)) (sh_ln hG (by decide +kernel)) (by decide) (s6 p1 p2) (s7 p1 p2) ex2 ?_
      refine e_P (st' := [aI 1, aI x2]) (show decode (mC 194) 86 = .ok (.iconst 1, 1) by decide +kernel) rfl rfl rfl ?_
      refine e_P (st' := [aI (x2 - 1)]) (show decode (mC 194) 87 = .ok (.isub, 1) by decide +kernel) rfl rfl rfl ?_
      exact e_iret (show decode (mC 194) 88 = .ok (.ireturn, 1) by decide +kernel) rfl (z9 p1 p2)
    · refine e_swj (off := 56) (t := 89) 1 (show decode (mC 194) 33 = .ok (.tableswitch 112 0 6 #[43, 56, 67, 78, 88, 100, 106], 43) by decide +kernel) p2 (by decide +kernel) ?_
      refine e_L (L' := [some (aR 188), some (aI v1), some (aI v2)]) (st' := [aR 188]) (show decode (mC 194) 89 = .ok (.aload_n 0, 1) by decide +kernel) rfl (by show (if 188 = 0 then none else some (_, _)) = _; rw [if_neg (by decide)]) ?_
      refine e_getR (w := 190) (show decode (mC 194) 90 = .ok (.getfield 33, 3) by decide +kernel) (show pl 12 33 = some (0, 12, 6, 0) by decide +kernel) (by decide) (sh_ok hG (by decide +kernel)) (sh_rf hG (by decide +kernel)) ?_
      refine e_P (st' := [aI 181, aR 190]) (show decode (mC 194) 93 = .ok (.sipush 181, 3) by decide +kernel) rfl rfl rfl ?_
      refine e_L (L' := [some (aR 188), some (aI v1), some (aI v2)]) (st' := [aI v1, aI 181, aR 190]) (show decode (mC 194) 96 = .ok (.iload_n 1, 1) by decide +kernel) rfl rfl ?_
      refine e_P (st' := [aI (181 + v1), aR 190]) (show decode (mC 194) 97 = .ok (.iadd, 1) by decide +kernel) rfl rfl rfl ?_
      refine e_ialdx (n := 514) (show decode (mC 194) 98 = .ok (.iaload, 1) by decide +kernel) (sh_ok hG (by decide +kernel)) (sh_ln hG (by decide +kernel)) (by decide) (s10 p1 p2) (s11 p1 p2) ex3 ?_
      exact e_iret (show decode (mC 194) 99 = .ok (.ireturn, 1) by decide +kernel) rfl (z13 p1 p2)
    · refine e_swj (off := 67) (t := 100) 2 (show decode (mC 194) 33 = .ok (.tableswitch 112 0 6 #[43, 56, 67, 78, 88, 100, 106], 43) by decide +kernel) p2 (by decide +kernel) ?_
      refine e_L (L' := [some (aR 188), some (aI v1), some (aI v2)]) (st' := [aR 188]) (show decode (mC 194) 100 = .ok (.aload_n 0, 1) by decide +kernel) rfl (by show (if 188 = 0 then none else some (_, _)) = _; rw [if_neg (by decide)]) ?_
      refine e_getR (w := 190) (show decode (mC 194) 101 = .ok (.getfield 33, 3) by decide +kernel) (show pl 12 33 = some (0, 12, 6, 0) by decide +kernel) (by decide) (sh_ok hG (by decide +kernel)) (sh_rf hG (by decide +kernel)) ?_
      refine e_P (st' := [aI 189, aR 190]) (show decode (mC 194) 104 = .ok (.sipush 189, 3) by decide +kernel) rfl rfl rfl ?_
      refine e_L (L' := [some (aR 188), some (aI v1), some (aI v2)]) (st' := [aI v1, aI 189, aR 190]) (show decode (mC 194) 107 = .ok (.iload_n 1, 1) by decide +kernel) rfl rfl ?_
      refine e_P (st' := [aI (189 + v1), aR 190]) (show decode (mC 194) 108 = .ok (.iadd, 1) by decide +kernel) rfl rfl rfl ?_
      refine e_ialdx (n := 514) (show decode (mC 194) 109 = .ok (.iaload, 1) by decide +kernel) (sh_ok hG (by decide +kernel)) (sh_ln hG (by decide +kernel)) (by decide) (s14 p1 p2) (s15 p1 p2) ex4 ?_
      exact e_iret (show decode (mC 194) 110 = .ok (.ireturn, 1) by decide +kernel) rfl (z17 p1 p2)
    · refine e_swj (off := 78) (t := 111) 3 (show decode (mC 194) 33 = .ok (.tableswitch 112 0 6 #[43, 56, 67, 78, 88, 100, 106], 43) by decide +kernel) p2 (by decide +kernel) ?_
      refine e_L (L' := [some (aR 188), some (aI v1), some (aI v2)]) (st' := [aR 188]) (show decode (mC 194) 111 = .ok (.aload_n 0, 1) by decide +kernel) rfl (by show (if 188 = 0 then none else some (_, _)) = _; rw [if_neg (by decide)]) ?_
      refine e_getR (w := 190) (show decode (mC 194) 112 = .ok (.getfield 33, 3) by decide +kernel) (show pl 12 33 = some (0, 12, 6, 0) by decide +kernel) (by decide) (sh_ok hG (by decide +kernel)) (sh_rf hG (by decide +kernel)) ?_
      refine e_P (st' := [aI 51, aR 190]) (show decode (mC 194) 115 = .ok (.bipush 51, 2) by decide +kernel) rfl rfl rfl ?_
      refine e_L (L' := [some (aR 188), some (aI v1), some (aI v2)]) (st' := [aI v1, aI 51, aR 190]) (show decode (mC 194) 117 = .ok (.iload_n 1, 1) by decide +kernel) rfl rfl ?_
      refine e_P (st' := [aI (51 + v1), aR 190]) (show decode (mC 194) 118 = .ok (.iadd, 1) by decide +kernel) rfl rfl rfl ?_
      refine e_ialdx (n := 514) (show decode (mC 194) 119 = .ok (.iaload, 1) by decide +kernel) (sh_ok hG (by decide +kernel)) (sh_ln hG (by decide +kernel)) (by decide) (s18 p1 p2) (s19 p1 p2) ex5 ?_
      exact e_iret (show decode (mC 194) 120 = .ok (.ireturn, 1) by decide +kernel) rfl (z21 p1 p2)
    · refine e_swj (off := 88) (t := 121) 4 (show decode (mC 194) 33 = .ok (.tableswitch 112 0 6 #[43, 56, 67, 78, 88, 100, 106], 43) by decide +kernel) p2 (by decide +kernel) ?_
      refine e_L (L' := [some (aR 188), some (aI v1), some (aI v2)]) (st' := [aR 188]) (show decode (mC 194) 121 = .ok (.aload_n 0, 1) by decide +kernel) rfl (by show (if 188 = 0 then none else some (_, _)) = _; rw [if_neg (by decide)]) ?_
      refine e_getR (w := 190) (show decode (mC 194) 122 = .ok (.getfield 33, 3) by decide +kernel) (show pl 12 33 = some (0, 12, 6, 0) by decide +kernel) (by decide) (sh_ok hG (by decide +kernel)) (sh_rf hG (by decide +kernel)) ?_
      refine e_P (st' := [aI 59, aR 190]) (show decode (mC 194) 125 = .ok (.bipush 59, 2) by decide +kernel) rfl rfl rfl ?_
      refine e_L (L' := [some (aR 188), some (aI v1), some (aI v2)]) (st' := [aI v1, aI 59, aR 190]) (show decode (mC 194) 127 = .ok (.iload_n 1, 1) by decide +kernel) rfl rfl ?_
      refine e_P (st' := [aI (59 + v1), aR 190]) (show decode (mC 194) 128 = .ok (.iadd, 1) by decide +kernel) rfl rfl rfl ?_
      refine e_ialdx (n := 514) (show decode (mC 194) 129 = .ok (.iaload, 1) by decide +kernel) (sh_ok hG (by decide +kernel)) (sh_ln hG (by decide +kernel)) (by decide) (s22 p1 p2) (s23 p1 p2) ex6 ?_
      refine e_P (st' := [aI 1, aI x6]) (show decode (mC 194) 130 = .ok (.iconst 1, 1) by decide +kernel) rfl rfl rfl ?_
      refine e_P (st' := [aI (x6 - 1)]) (show decode (mC 194) 131 = .ok (.isub, 1) by decide +kernel) rfl rfl rfl ?_
      exact e_iret (show decode (mC 194) 132 = .ok (.ireturn, 1) by decide +kernel) rfl (z25 p1 p2)
    · refine e_swj (off := 100) (t := 133) 5 (show decode (mC 194) 33 = .ok (.tableswitch 112 0 6 #[43, 56, 67, 78, 88, 100, 106], 43) by decide +kernel) p2 (by decide +kernel) ?_
      refine e_L (L' := [some (aR 188), some (aI v1), some (aI v2)]) (st' := [aR 188]) (show decode (mC 194) 133 = .ok (.aload_n 0, 1) by decide +kernel) rfl (by show (if 188 = 0 then none else some (_, _)) = _; rw [if_neg (by decide)]) ?_
      refine e_L (L' := [some (aR 188), some (aI v1), some (aI v2)]) (st' := [aI v1, aR 188]) (show decode (mC 194) 134 = .ok (.iload_n 1, 1) by decide +kernel) rfl rfl ?_
      exact e_V (as := [aR 188, aI v1]) (rest := []) (show decode (mC 194) 135 = .ok (.invokevirtual 255, 3) by decide +kernel) (by decide +kernel) (show (decide ((2 : Nat) = mA 192) && decide (192 < q_law)) = true by decide +kernel) rfl (show (0 : Nat) ≤ 8 by decide) (show (2 : Nat) ≤ mL 192 by decide +kernel) rfl (sh_ok hG (by decide +kernel)) (tm_le hQ (leN (leN (leN leE))) (m26 p1 p2))
    · refine e_swj (off := 106) (t := 139) 6 (show decode (mC 194) 33 = .ok (.tableswitch 112 0 6 #[43, 56, 67, 78, 88, 100, 106], 43) by decide +kernel) p2 (by decide +kernel) ?_
      refine e_L (L' := [some (aR 188), some (aI v1), some (aI v2)]) (st' := [aR 188]) (show decode (mC 194) 139 = .ok (.aload_n 0, 1) by decide +kernel) rfl (by show (if 188 = 0 then none else some (_, _)) = _; rw [if_neg (by decide)]) ?_
      refine e_L (L' := [some (aR 188), some (aI v1), some (aI v2)]) (st' := [aI v1, aR 188]) (show decode (mC 194) 140 = .ok (.iload_n 1, 1) by decide +kernel) rfl rfl ?_
      exact e_V (as := [aR 188, aI v1]) (rest := []) (show decode (mC 194) 141 = .ok (.invokevirtual 258, 3) by decide +kernel) (by decide +kernel) (show (decide ((2 : Nat) = mA 193) && decide (193 < q_law)) = true by decide +kernel) rfl (show (0 : Nat) ≤ 8 by decide) (show (2 : Nat) ≤ mL 193 by decide +kernel) rfl (sh_ok hG (by decide +kernel)) (tm_le hQ (leN (leN (leN leE))) (m27 p1 p2))
  · refine e_P (st' := [aI 0]) (show decode (mC 194) 30 = .ok (.iconst 0, 1) by decide +kernel) rfl rfl rfl ?_
    exact e_iret (show decode (mC 194) 31 = .ok (.ireturn, 1) by decide +kernel) rfl (z28 p1)
/-- SoulOfficeModel.soul(II)I, from 138 -/
theorem b194_138 (hG : Shp G) {u0 : Int}
    (z0 : Q (.inl (some (aI u0))) (G, c)) :
    T (d + 1) 194 138 [none, none, none] [aI u0] (G, c) Q := by
  exact e_iret (show decode (mC 194) 138 = .ok (.ireturn, 1) by decide +kernel) rfl z0
/-- SoulOfficeModel.soul(II)I, from 144 -/
theorem b194_144 (hG : Shp G) {u0 : Int}
    (z0 : Q (.inl (some (aI u0))) (G, c)) :
    T (d + 1) 194 144 [none, none, none] [aI u0] (G, c) Q := by
  exact e_iret (show decode (mC 194) 144 = .ok (.ireturn, 1) by decide +kernel) rfl z0
/-- SoulOfficeModel.debt(II)I, from 0 -/
theorem b195_0 (hG : Shp G) {v1 v2 : Int}
    (m0 : TM d 188 [aR 188, aI v1] (G, (q_up c 188 0 0)) (fun r h' => T (d + 1) 195 10 [some (aR 188), some (aI v1), some (aI v2)] (r.toList ++ []) h' Q)) :
    T (d + 1) 195 0 [some (aR 188), some (aI v1), some (aI v2)] [] (G, c) Q := by
  refine e_L (L' := [some (aR 188), some (aI v1), some (aI v2)]) (st' := [aR 188]) (show decode (mC 195) 0 = .ok (.aload_n 0, 1) by decide +kernel) rfl (by show (if 188 = 0 then none else some (_, _)) = _; rw [if_neg (by decide)]) ?_
  refine e_P (st' := [aI 0, aR 188]) (show decode (mC 195) 1 = .ok (.iconst 0, 1) by decide +kernel) rfl rfl rfl ?_
  refine e_putI (show decode (mC 195) 2 = .ok (.putfield 1, 3) by decide +kernel) (show pl 12 1 = some (0, 12, 0, 0) by decide +kernel) (by decide) (sh_ok hG (by decide +kernel)) ?_
  refine e_L (L' := [some (aR 188), some (aI v1), some (aI v2)]) (st' := [aR 188]) (show decode (mC 195) 5 = .ok (.aload_n 0, 1) by decide +kernel) rfl (by show (if 188 = 0 then none else some (_, _)) = _; rw [if_neg (by decide)]) ?_
  refine e_L (L' := [some (aR 188), some (aI v1), some (aI v2)]) (st' := [aI v1, aR 188]) (show decode (mC 195) 6 = .ok (.iload_n 1, 1) by decide +kernel) rfl rfl ?_
  exact e_V (as := [aR 188, aI v1]) (rest := []) (show decode (mC 195) 7 = .ok (.invokevirtual 248, 3) by decide +kernel) (by decide +kernel) (show (decide ((2 : Nat) = mA 188) && decide (188 < q_law)) = true by decide +kernel) rfl (show (0 : Nat) ≤ 8 by decide) (show (2 : Nat) ≤ mL 188 by decide +kernel) rfl (sh_ok hG (by decide +kernel)) m0
/-- SoulOfficeModel.debt(II)I, from 10 -/
theorem b195_10 (hG : Shp G) {v1 v2 u0 : Int}
    (s0 : -2147483648 ≤ u0 ∧ u0 < 2147483648)
    (z1 : (u0 = 0) → Q (.inl (some (aI (-1)))) (G, c))
    (m2 : (¬ u0 = 0) → TM d 188 [aR 188, aI v2] (G, c) (fun r h' => T (d + 1) 195 18 [some (aR 188), some (aI v1), some (aI v2)] (r.toList ++ []) h' Q)) :
    T (d + 1) 195 10 [some (aR 188), some (aI v1), some (aI v2)] [aI u0] (G, c) Q := by
  refine e_eq1 (t := 39) (show decode (mC 195) 10 = .ok (.ifCond .eq 29, 3) by decide +kernel) (by decide) s0 (fun p1 => ?_) (fun p1 => ?_)
  · refine e_P (st' := [aI (-1)]) (show decode (mC 195) 39 = .ok (.iconst (-1), 1) by decide +kernel) rfl rfl rfl ?_
    exact e_iret (show decode (mC 195) 40 = .ok (.ireturn, 1) by decide +kernel) rfl (z1 p1)
  · refine e_L (L' := [some (aR 188), some (aI v1), some (aI v2)]) (st' := [aR 188]) (show decode (mC 195) 13 = .ok (.aload_n 0, 1) by decide +kernel) rfl (by show (if 188 = 0 then none else some (_, _)) = _; rw [if_neg (by decide)]) ?_
    refine e_L (L' := [some (aR 188), some (aI v1), some (aI v2)]) (st' := [aI v2, aR 188]) (show decode (mC 195) 14 = .ok (.iload_n 2, 1) by decide +kernel) rfl rfl ?_
    exact e_V (as := [aR 188, aI v2]) (rest := []) (show decode (mC 195) 15 = .ok (.invokevirtual 248, 3) by decide +kernel) (by decide +kernel) (show (decide ((2 : Nat) = mA 188) && decide (188 < q_law)) = true by decide +kernel) rfl (show (0 : Nat) ≤ 8 by decide) (show (2 : Nat) ≤ mL 188 by decide +kernel) rfl (sh_ok hG (by decide +kernel)) (m2 p1)
end QB25
