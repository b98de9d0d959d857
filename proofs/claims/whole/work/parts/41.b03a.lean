section QB11
variable {d : Nat} {G : GG} {c : CC} {Q : OO → HH → Prop}
/-- SoulOffice$Image.keep(LSoulOffice$Rules;LSoulOffice$Life;LSoulOffice$Sentence;)V, from 0 -/
theorem b17_0 (hG : Shp G) {a : Nat} (h_a : Ruls a) {b : Nat} (h_b : Life b) {e : Nat} (h_e : Sent e) (hQ : ∀ o o' h', q_eqo o o' → Q o h' → Q o' h')
    (m0 : TM d 78 [aR 142, aR a] (G, c) (fun r h' => T (d + 1) 17 8 [some (aR 141), none, some (aR b), some (aR e)] (r.toList ++ []) h' Q)) :
    T (d + 1) 17 0 [some (aR 141), some (aR a), some (aR b), some (aR e)] [] (G, c) Q := by
  refine e_L (L' := [some (aR 141), some (aR a), some (aR b), some (aR e)]) (st' := [aR 141]) (show decode (mC 17) 0 = .ok (.aload_n 0, 1) by decide +kernel) rfl (by show (if 141 = 0 then none else some (_, _)) = _; rw [if_neg (by decide)]) ?_
  refine e_getR (w := 142) (show decode (mC 17) 1 = .ok (.getfield 10, 3) by decide +kernel) (show pl 3 10 = some (0, 3, 0, 0) by decide +kernel) (by decide) (sh_ok hG (by decide +kernel)) (sh_rf hG (by decide +kernel)) ?_
  refine e_L (L' := [some (aR 141), some (aR a), some (aR b), some (aR e)]) (st' := [aR a, aR 142]) (show decode (mC 17) 4 = .ok (.aload_n 1, 1) by decide +kernel) rfl (by show (if a = 0 then none else some (_, _)) = _; rw [if_neg (show ¬ a = 0 from ru_ne h_a 0)]) ?_
  exact e_V (as := [aR 142, aR a]) (rest := []) (show decode (mC 17) 5 = .ok (.invokevirtual 34, 3) by decide +kernel) (by decide +kernel) (show (decide ((2 : Nat) = mA 78) && decide (78 < q_law)) = true by decide +kernel) rfl (show (0 : Nat) ≤ 8 by decide) (show (2 : Nat) ≤ mL 78 by decide +kernel) rfl (sh_ok hG (by decide +kernel)) (tm_le hQ (leS (leN (leS (leS leE)))) m0)
/-- SoulOffice$Image.keep(LSoulOffice$Rules;LSoulOffice$Life;LSoulOffice$Sentence;)V, from 8 -/
theorem b17_8 (hG : Shp G) {b : Nat} (h_b : Life b) {e : Nat} (h_e : Sent e) (hQ : ∀ o o' h', q_eqo o o' → Q o h' → Q o' h')
    (m0 : TM d 21 [aR 151, aR b] (G, c) (fun r h' => T (d + 1) 17 16 [some (aR 141), none, none, some (aR e)] (r.toList ++ []) h' Q)) :
    T (d + 1) 17 8 [some (aR 141), none, some (aR b), some (aR e)] [] (G, c) Q := by
  refine e_L (L' := [some (aR 141), none, some (aR b), some (aR e)]) (st' := [aR 141]) (show decode (mC 17) 8 = .ok (.aload_n 0, 1) by decide +kernel) rfl (by show (if 141 = 0 then none else some (_, _)) = _; rw [if_neg (by decide)]) ?_
  refine e_getR (w := 151) (show decode (mC 17) 9 = .ok (.getfield 21, 3) by decide +kernel) (show pl 3 21 = some (0, 3, 1, 0) by decide +kernel) (by decide) (sh_ok hG (by decide +kernel)) (sh_rf hG (by decide +kernel)) ?_
  refine e_L (L' := [some (aR 141), none, some (aR b), some (aR e)]) (st' := [aR b, aR 151]) (show decode (mC 17) 12 = .ok (.aload_n 2, 1) by decide +kernel) rfl (by show (if b = 0 then none else some (_, _)) = _; rw [if_neg (show ¬ b = 0 from lf_ne h_b 0)]) ?_
  exact e_V (as := [aR 151, aR b]) (rest := []) (show decode (mC 17) 13 = .ok (.invokevirtual 37, 3) by decide +kernel) (by decide +kernel) (show (decide ((2 : Nat) = mA 21) && decide (21 < q_law)) = true by decide +kernel) rfl (show (0 : Nat) ≤ 8 by decide) (show (2 : Nat) ≤ mL 21 by decide +kernel) rfl (sh_ok hG (by decide +kernel)) (tm_le hQ (leS (leS (leN (leS leE)))) m0)
/-- SoulOffice$Image.keep(LSoulOffice$Rules;LSoulOffice$Life;LSoulOffice$Sentence;)V, from 16 -/
theorem b17_16 (hG : Shp G) {e : Nat} (h_e : Sent e) (hQ : ∀ o o' h', q_eqo o o' → Q o h' → Q o' h')
    (m0 : TM d 81 [aR 159, aR e] (G, c) (fun r h' => T (d + 1) 17 24 [some (aR 141), none, none, none] (r.toList ++ []) h' Q)) :
    T (d + 1) 17 16 [some (aR 141), none, none, some (aR e)] [] (G, c) Q := by
  refine e_L (L' := [some (aR 141), none, none, some (aR e)]) (st' := [aR 141]) (show decode (mC 17) 16 = .ok (.aload_n 0, 1) by decide +kernel) rfl (by show (if 141 = 0 then none else some (_, _)) = _; rw [if_neg (by decide)]) ?_
  refine e_getR (w := 159) (show decode (mC 17) 17 = .ok (.getfield 30, 3) by decide +kernel) (show pl 3 30 = some (0, 3, 2, 0) by decide +kernel) (by decide) (sh_ok hG (by decide +kernel)) (sh_rf hG (by decide +kernel)) ?_
  refine e_L (L' := [some (aR 141), none, none, some (aR e)]) (st' := [aR e, aR 159]) (show decode (mC 17) 20 = .ok (.aload_n 3, 1) by decide +kernel) rfl (by show (if e = 0 then none else some (_, _)) = _; rw [if_neg (show ¬ e = 0 from se_ne h_e 0)]) ?_
  exact e_V (as := [aR 159, aR e]) (rest := []) (show decode (mC 17) 21 = .ok (.invokevirtual 40, 3) by decide +kernel) (by decide +kernel) (show (decide ((2 : Nat) = mA 81) && decide (81 < q_law)) = true by decide +kernel) rfl (show (0 : Nat) ≤ 8 by decide) (show (2 : Nat) ≤ mL 81 by decide +kernel) rfl (sh_ok hG (by decide +kernel)) (tm_le hQ (leS (leS (leS (leN leE)))) m0)
/-- SoulOffice$Image.keep(LSoulOffice$Rules;LSoulOffice$Life;LSoulOffice$Sentence;)V, from 24 -/
theorem b17_24 (hG : Shp G)
    (z0 : Q (.inl none) (G, (q_up c 141 3 1))) :
    T (d + 1) 17 24 [some (aR 141), none, none, none] [] (G, c) Q := by
  refine e_L (L' := [some (aR 141), none, none, none]) (st' := [aR 141]) (show decode (mC 17) 24 = .ok (.aload_n 0, 1) by decide +kernel) rfl (by show (if 141 = 0 then none else some (_, _)) = _; rw [if_neg (by decide)]) ?_
  refine e_P (st' := [aI 1, aR 141]) (show decode (mC 17) 25 = .ok (.iconst 1, 1) by decide +kernel) rfl rfl rfl ?_
  refine e_putZ (show decode (mC 17) 26 = .ok (.putfield 43, 3) by decide +kernel) (show pl 3 43 = some (0, 3, 3, 0) by decide +kernel) (by decide) (sh_ok hG (by decide +kernel)) (by decide) ?_
  exact e_vret (show decode (mC 17) 29 = .ok (.return_, 1) by decide +kernel) rfl z0
/-- SoulOffice$Image.putBack(LSoulOffice$Rules;LSoulOffice$Life;LSoulOffice$Sentence;)V, from 0 -/
theorem b18_0 (hG : Shp G) {a : Nat} (h_a : Ruls a) {b : Nat} (h_b : Life b) {e : Nat} (h_e : Sent e) (hQ : ∀ o o' h', q_eqo o o' → Q o h' → Q o' h')
    (m0 : TM d 78 [aR a, aR 142] (G, c) (fun r h' => T (d + 1) 18 8 [some (aR 141), none, some (aR b), some (aR e)] (r.toList ++ []) h' Q)) :
    T (d + 1) 18 0 [some (aR 141), some (aR a), some (aR b), some (aR e)] [] (G, c) Q := by
  refine e_L (L' := [some (aR 141), some (aR a), some (aR b), some (aR e)]) (st' := [aR a]) (show decode (mC 18) 0 = .ok (.aload_n 1, 1) by decide +kernel) rfl (by show (if a = 0 then none else some (_, _)) = _; rw [if_neg (show ¬ a = 0 from ru_ne h_a 0)]) ?_
  refine e_L (L' := [some (aR 141), some (aR a), some (aR b), some (aR e)]) (st' := [aR 141, aR a]) (show decode (mC 18) 1 = .ok (.aload_n 0, 1) by decide +kernel) rfl (by show (if 141 = 0 then none else some (_, _)) = _; rw [if_neg (by decide)]) ?_
  refine e_getR (w := 142) (show decode (mC 18) 2 = .ok (.getfield 10, 3) by decide +kernel) (show pl 3 10 = some (0, 3, 0, 0) by decide +kernel) (by decide) (sh_ok hG (by decide +kernel)) (sh_rf hG (by decide +kernel)) ?_
  exact e_V (as := [aR a, aR 142]) (rest := []) (show decode (mC 18) 5 = .ok (.invokevirtual 34, 3) by decide +kernel) (by decide +kernel) (show (decide ((2 : Nat) = mA 78) && decide (78 < q_law)) = true by decide +kernel) rfl (show (0 : Nat) ≤ 8 by decide) (show (2 : Nat) ≤ mL 78 by decide +kernel) rfl (ru_ok hG h_a 0 (by decide)) (tm_le hQ (leS (leN (leS (leS leE)))) m0)
/-- SoulOffice$Image.putBack(LSoulOffice$Rules;LSoulOffice$Life;LSoulOffice$Sentence;)V, from 8 -/
theorem b18_8 (hG : Shp G) {b : Nat} (h_b : Life b) {e : Nat} (h_e : Sent e) (hQ : ∀ o o' h', q_eqo o o' → Q o h' → Q o' h')
    (m0 : TM d 21 [aR b, aR 151] (G, c) (fun r h' => T (d + 1) 18 16 [some (aR 141), none, none, some (aR e)] (r.toList ++ []) h' Q)) :
    T (d + 1) 18 8 [some (aR 141), none, some (aR b), some (aR e)] [] (G, c) Q := by
  refine e_L (L' := [some (aR 141), none, some (aR b), some (aR e)]) (st' := [aR b]) (show decode (mC 18) 8 = .ok (.aload_n 2, 1) by decide +kernel) rfl (by show (if b = 0 then none else some (_, _)) = _; rw [if_neg (show ¬ b = 0 from lf_ne h_b 0)]) ?_
  refine e_L (L' := [some (aR 141), none, some (aR b), some (aR e)]) (st' := [aR 141, aR b]) (show decode (mC 18) 9 = .ok (.aload_n 0, 1) by decide +kernel) rfl (by show (if 141 = 0 then none else some (_, _)) = _; rw [if_neg (by decide)]) ?_
  refine e_getR (w := 151) (show decode (mC 18) 10 = .ok (.getfield 21, 3) by decide +kernel) (show pl 3 21 = some (0, 3, 1, 0) by decide +kernel) (by decide) (sh_ok hG (by decide +kernel)) (sh_rf hG (by decide +kernel)) ?_
  exact e_V (as := [aR b, aR 151]) (rest := []) (show decode (mC 18) 13 = .ok (.invokevirtual 37, 3) by decide +kernel) (by decide +kernel) (show (decide ((2 : Nat) = mA 21) && decide (21 < q_law)) = true by decide +kernel) rfl (show (0 : Nat) ≤ 8 by decide) (show (2 : Nat) ≤ mL 21 by decide +kernel) rfl (lf_ok hG h_b 0 (by decide)) (tm_le hQ (leS (leS (leN (leS leE)))) m0)
/-- SoulOffice$Image.putBack(LSoulOffice$Rules;LSoulOffice$Life;LSoulOffice$Sentence;)V, from 16 -/
theorem b18_16 (hG : Shp G) {e : Nat} (h_e : Sent e) (hQ : ∀ o o' h', q_eqo o o' → Q o h' → Q o' h')
    (m0 : TM d 81 [aR e, aR 159] (G, c) (fun r h' => T (d + 1) 18 24 [none, none, none, none] (r.toList ++ []) h' Q)) :
    T (d + 1) 18 16 [some (aR 141), none, none, some (aR e)] [] (G, c) Q := by
  refine e_L (L' := [some (aR 141), none, none, some (aR e)]) (st' := [aR e]) (show decode (mC 18) 16 = .ok (.aload_n 3, 1) by decide +kernel) rfl (by show (if e = 0 then none else some (_, _)) = _; rw [if_neg (show ¬ e = 0 from se_ne h_e 0)]) ?_
  refine e_L (L' := [some (aR 141), none, none, some (aR e)]) (st' := [aR 141, aR e]) (show decode (mC 18) 17 = .ok (.aload_n 0, 1) by decide +kernel) rfl (by show (if 141 = 0 then none else some (_, _)) = _; rw [if_neg (by decide)]) ?_
  refine e_getR (w := 159) (show decode (mC 18) 18 = .ok (.getfield 30, 3) by decide +kernel) (show pl 3 30 = some (0, 3, 2, 0) by decide +kernel) (by decide) (sh_ok hG (by decide +kernel)) (sh_rf hG (by decide +kernel)) ?_
  exact e_V (as := [aR e, aR 159]) (rest := []) (show decode (mC 18) 21 = .ok (.invokevirtual 40, 3) by decide +kernel) (by decide +kernel) (show (decide ((2 : Nat) = mA 81) && decide (81 < q_law)) = true by decide +kernel) rfl (show (0 : Nat) ≤ 8 by decide) (show (2 : Nat) ≤ mL 81 by decide +kernel) rfl (se_ok hG h_e 0 (by decide)) (tm_le hQ (leN (leS (leS (leN leE)))) m0)
/-- SoulOffice$Image.putBack(LSoulOffice$Rules;LSoulOffice$Life;LSoulOffice$Sentence;)V, from 24 -/
theorem b18_24 (hG : Shp G)
    (z0 : Q (.inl none) (G, c)) :
    T (d + 1) 18 24 [none, none, none, none] [] (G, c) Q := by
  exact e_vret (show decode (mC 18) 24 = .ok (.return_, 1) by decide +kernel) rfl z0
/-- SoulOffice$Image.keep(LSoulOffice$Rules;LSoulOffice$Life;LSoulOffice$Sentence;)V, from 0 -/
theorem b17i_0 (hG : Shp G) {a : Nat} (h_a : Ruls a) {b : Nat} (h_b : Life b) {e : Nat} (h_e : Sent e) (hQ : ∀ o o' h', q_eqo o o' → Q o h' → Q o' h')
    (m0 : TM d 78 [aR 165, aR a] (G, c) (fun r h' => T (d + 1) 17 8 [some (aR 164), none, some (aR b), some (aR e)] (r.toList ++ []) h' Q)) :
    T (d + 1) 17 0 [some (aR 164), some (aR a), some (aR b), some (aR e)] [] (G, c) Q := by
  refine e_L (L' := [some (aR 164), some (aR a), some (aR b), some (aR e)]) (st' := [aR 164]) (show decode (mC 17) 0 = .ok (.aload_n 0, 1) by decide +kernel) rfl (by show (if 164 = 0 then none else some (_, _)) = _; rw [if_neg (by decide)]) ?_
  refine e_getR (w := 165) (show decode (mC 17) 1 = .ok (.getfield 10, 3) by decide +kernel) (show pl 3 10 = some (0, 3, 0, 0) by decide +kernel) (by decide) (sh_ok hG (by decide +kernel)) (sh_rf hG (by decide +kernel)) ?_
  refine e_L (L' := [some (aR 164), some (aR a), some (aR b), some (aR e)]) (st' := [aR a, aR 165]) (show decode (mC 17) 4 = .ok (.aload_n 1, 1) by decide +kernel) rfl (by show (if a = 0 then none else some (_, _)) = _; rw [if_neg (show ¬ a = 0 from ru_ne h_a 0)]) ?_
  exact e_V (as := [aR 165, aR a]) (rest := []) (show decode (mC 17) 5 = .ok (.invokevirtual 34, 3) by decide +kernel) (by decide +kernel) (show (decide ((2 : Nat) = mA 78) && decide (78 < q_law)) = true by decide +kernel) rfl (show (0 : Nat) ≤ 8 by decide) (show (2 : Nat) ≤ mL 78 by decide +kernel) rfl (sh_ok hG (by decide +kernel)) (tm_le hQ (leS (leN (leS (leS leE)))) m0)
/-- SoulOffice$Image.keep(LSoulOffice$Rules;LSoulOffice$Life;LSoulOffice$Sentence;)V, from 8 -/
theorem b17i_8 (hG : Shp G) {b : Nat} (h_b : Life b) {e : Nat} (h_e : Sent e) (hQ : ∀ o o' h', q_eqo o o' → Q o h' → Q o' h')
    (m0 : TM d 21 [aR 174, aR b] (G, c) (fun r h' => T (d + 1) 17 16 [some (aR 164), none, none, some (aR e)] (r.toList ++ []) h' Q)) :
    T (d + 1) 17 8 [some (aR 164), none, some (aR b), some (aR e)] [] (G, c) Q := by
  refine e_L (L' := [some (aR 164), none, some (aR b), some (aR e)]) (st' := [aR 164]) (show decode (mC 17) 8 = .ok (.aload_n 0, 1) by decide +kernel) rfl (by show (if 164 = 0 then none else some (_, _)) = _; rw [if_neg (by decide)]) ?_
  refine e_getR (w := 174) (show decode (mC 17) 9 = .ok (.getfield 21, 3) by decide +kernel) (show pl 3 21 = some (0, 3, 1, 0) by decide +kernel) (by decide) (sh_ok hG (by decide +kernel)) (sh_rf hG (by decide +kernel)) ?_
  refine e_L (L' := [some (aR 164), none, some (aR b), some (aR e)]) (st' := [aR b, aR 174]) (show decode (mC 17) 12 = .ok (.aload_n 2, 1) by decide +kernel) rfl (by show (if b = 0 then none else some (_, _)) = _; rw [if_neg (show ¬ b = 0 from lf_ne h_b 0)]) ?_
  exact e_V (as := [aR 174, aR b]) (rest := []) (show decode (mC 17) 13 = .ok (.invokevirtual 37, 3) by decide +kernel) (by decide +kernel) (show (decide ((2 : Nat) = mA 21) && decide (21 < q_law)) = true by decide +kernel) rfl (show (0 : Nat) ≤ 8 by decide) (show (2 : Nat) ≤ mL 21 by decide +kernel) rfl (sh_ok hG (by decide +kernel)) (tm_le hQ (leS (leS (leN (leS leE)))) m0)
/-- SoulOffice$Image.keep(LSoulOffice$Rules;LSoulOffice$Life;LSoulOffice$Sentence;)V, from 16 -/
theorem b17i_16 (hG : Shp G) {e : Nat} (h_e : Sent e) (hQ : ∀ o o' h', q_eqo o o' → Q o h' → Q o' h')
    (m0 : TM d 81 [aR 182, aR e] (G, c) (fun r h' => T (d + 1) 17 24 [some (aR 164), none, none, none] (r.toList ++ []) h' Q)) :
    T (d + 1) 17 16 [some (aR 164), none, none, some (aR e)] [] (G, c) Q := by
  refine e_L (L' := [some (aR 164), none, none, some (aR e)]) (st' := [aR 164]) (show decode (mC 17) 16 = .ok (.aload_n 0, 1) by decide +kernel) rfl (by show (if 164 = 0 then none else some (_, _)) = _; rw [if_neg (by decide)]) ?_
  refine e_getR (w := 182) (show decode (mC 17) 17 = .ok (.getfield 30, 3) by decide +kernel) (show pl 3 30 = some (0, 3, 2, 0) by decide +kernel) (by decide) (sh_ok hG (by decide +kernel)) (sh_rf hG (by decide +kernel)) ?_
  refine e_L (L' := [some (aR 164), none, none, some (aR e)]) (st' := [aR e, aR 182]) (show decode (mC 17) 20 = .ok (.aload_n 3, 1) by decide +kernel) rfl (by show (if e = 0 then none else some (_, _)) = _; rw [if_neg (show ¬ e = 0 from se_ne h_e 0)]) ?_
  exact e_V (as := [aR 182, aR e]) (rest := []) (show decode (mC 17) 21 = .ok (.invokevirtual 40, 3) by decide +kernel) (by decide +kernel) (show (decide ((2 : Nat) = mA 81) && decide (81 < q_law)) = true by decide +kernel) rfl (show (0 : Nat) ≤ 8 by decide) (show (2 : Nat) ≤ mL 81 by decide +kernel) rfl (sh_ok hG (by decide +kernel)) (tm_le hQ (leS (leS (leS (leN leE)))) m0)
/-- SoulOffice$Image.keep(LSoulOffice$Rules;LSoulOffice$Life;LSoulOffice$Sentence;)V, from 24 -/
theorem b17i_24 (hG : Shp G)
    (z0 : Q (.inl none) (G, (q_up c 164 3 1))) :
    T (d + 1) 17 24 [some (aR 164), none, none, none] [] (G, c) Q := by
  refine e_L (L' := [some (aR 164), none, none, none]) (st' := [aR 164]) (show decode (mC 17) 24 = .ok (.aload_n 0, 1) by decide +kernel) rfl (by show (if 164 = 0 then none else some (_, _)) = _; rw [if_neg (by decide)]) ?_
  refine e_P (st' := [aI 1, aR 164]) (show decode (mC 17) 25 = .ok (.iconst 1, 1) by decide +kernel) rfl rfl rfl ?_
  refine e_putZ (show decode (mC 17) 26 = .ok (.putfield 43, 3) by decide +kernel) (show pl 3 43 = some (0, 3, 3, 0) by decide +kernel) (by decide) (sh_ok hG (by decide +kernel)) (by decide) ?_
  exact e_vret (show decode (mC 17) 29 = .ok (.return_, 1) by decide +kernel) rfl z0
/-- SoulOffice$Image.putBack(LSoulOffice$Rules;LSoulOffice$Life;LSoulOffice$Sentence;)V, from 0 -/
theorem b18i_0 (hG : Shp G) {a : Nat} (h_a : Ruls a) {b : Nat} (h_b : Life b) {e : Nat} (h_e : Sent e) (hQ : ∀ o o' h', q_eqo o o' → Q o h' → Q o' h')
    (m0 : TM d 78 [aR a, aR 165] (G, c) (fun r h' => T (d + 1) 18 8 [some (aR 164), none, some (aR b), some (aR e)] (r.toList ++ []) h' Q)) :
    T (d + 1) 18 0 [some (aR 164), some (aR a), some (aR b), some (aR e)] [] (G, c) Q := by
  refine e_L (L' := [some (aR 164), some (aR a), some (aR b), some (aR e)]) (st' := [aR a]) (show decode (mC 18) 0 = .ok (.aload_n 1, 1) by decide +kernel) rfl (by show (if a = 0 then none else some (_, _)) = _; rw [if_neg (show ¬ a = 0 from ru_ne h_a 0)]) ?_
  refine e_L (L' := [some (aR 164), some (aR a), some (aR b), some (aR e)]) (st' := [aR 164, aR a]) (show decode (mC 18) 1 = .ok (.aload_n 0, 1) by decide +kernel) rfl (by show (if 164 = 0 then none else some (_, _)) = _; rw [if_neg (by decide)]) ?_
  refine e_getR (w := 165) (show decode (mC 18) 2 = .ok (.getfield 10, 3) by decide +kernel) (show pl 3 10 = some (0, 3, 0, 0) by decide +kernel) (by decide) (sh_ok hG (by decide +kernel)) (sh_rf hG (by decide +kernel)) ?_
  exact e_V (as := [aR a, aR 165]) (rest := []) (show decode (mC 18) 5 = .ok (.invokevirtual 34, 3) by decide +kernel) (by decide +kernel) (show (decide ((2 : Nat) = mA 78) && decide (78 < q_law)) = true by decide +kernel) rfl (show (0 : Nat) ≤ 8 by decide) (show (2 : Nat) ≤ mL 78 by decide +kernel) rfl (ru_ok hG h_a 0 (by decide)) (tm_le hQ (leS (leN (leS (leS leE)))) m0)
/-- SoulOffice$Image.putBack(LSoulOffice$Rules;LSoulOffice$Life;LSoulOffice$Sentence;)V, from 8 -/
theorem b18i_8 (hG : Shp G) {b : Nat} (h_b : Life b) {e : Nat} (h_e : Sent e) (hQ : ∀ o o' h', q_eqo o o' → Q o h' → Q o' h')
    (m0 : TM d 21 [aR b, aR 174] (G, c) (fun r h' => T (d + 1) 18 16 [some (aR 164), none, none, some (aR e)] (r.toList ++ []) h' Q)) :
    T (d + 1) 18 8 [some (aR 164), none, some (aR b), some (aR e)] [] (G, c) Q := by
  refine e_L (L' := [some (aR 164), none, some (aR b), some (aR e)]) (st' := [aR b]) (show decode (mC 18) 8 = .ok (.aload_n 2, 1) by decide +kernel) rfl (by show (if b = 0 then none else some (_, _)) = _; rw [if_neg (show ¬ b = 0 from lf_ne h_b 0)]) ?_
  refine e_L (L' := [some (aR 164), none, some (aR b), some (aR e)]) (st' := [aR 164, aR b]) (show decode (mC 18) 9 = .ok (.aload_n 0, 1) by decide +kernel) rfl (by show (if 164 = 0 then none else some (_, _)) = _; rw [if_neg (by decide)]) ?_
  refine e_getR (w := 174) (show decode (mC 18) 10 = .ok (.getfield 21, 3) by decide +kernel) (show pl 3 21 = some (0, 3, 1, 0) by decide +kernel) (by decide) (sh_ok hG (by decide +kernel)) (sh_rf hG (by decide +kernel)) ?_
  exact e_V (as := [aR b, aR 174]) (rest := []) (show decode (mC 18) 13 = .ok (.invokevirtual 37, 3) by decide +kernel) (by decide +kernel) (show (decide ((2 : Nat) = mA 21) && decide (21 < q_law)) = true by decide +kernel) rfl (show (0 : Nat) ≤ 8 by decide) (show (2 : Nat) ≤ mL 21 by decide +kernel) rfl (lf_ok hG h_b 0 (by decide)) (tm_le hQ (leS (leS (leN (leS leE)))) m0)
/-- SoulOffice$Image.putBack(LSoulOffice$Rules;LSoulOffice$Life;LSoulOffice$Sentence;)V, from 16 -/
theorem b18i_16 (hG : Shp G) {e : Nat} (h_e : Sent e) (hQ : ∀ o o' h', q_eqo o o' → Q o h' → Q o' h')
    (m0 : TM d 81 [aR e, aR 182] (G, c) (fun r h' => T (d + 1) 18 24 [none, none, none, none] (r.toList ++ []) h' Q)) :
    T (d + 1) 18 16 [some (aR 164), none, none, some (aR e)] [] (G, c) Q := by
  refine e_L (L' := [some (aR 164), none, none, some (aR e)]) (st' := [aR e]) (show decode (mC 18) 16 = .ok (.aload_n 3, 1) by decide +kernel) rfl (by show (if e = 0 then none else some (_, _)) = _; rw [if_neg (show ¬ e = 0 from se_ne h_e 0)]) ?_
  refine e_L (L' := [some (aR 164), none, none, some (aR e)]) (st' := [aR 164, aR e]) (show decode (mC 18) 17 = .ok (.aload_n 0, 1) by decide +kernel) rfl (by show (if 164 = 0 then none else some (_, _)) = _; rw [if_neg (by decide)]) ?_
  refine e_getR (w := 182) (show decode (mC 18) 18 = .ok (.getfield 30, 3) by decide +kernel) (show pl 3 30 = some (0, 3, 2, 0) by decide +kernel) (by decide) (sh_ok hG (by decide +kernel)) (sh_rf hG (by decide +kernel)) ?_
  exact e_V (as := [aR e, aR 182]) (rest := []) (show decode (mC 18) 21 = .ok (.invokevirtual 40, 3) by decide +kernel) (by decide +kernel) (show (decide ((2 : Nat) = mA 81) && decide (81 < q_law)) = true by decide +kernel) rfl (show (0 : Nat) ≤ 8 by decide) (show (2 : Nat) ≤ mL 81 by decide +kernel) rfl (se_ok hG h_e 0 (by decide)) (tm_le hQ (leN (leS (leS (leN leE)))) m0)
/-- SoulOffice$Image.putBack(LSoulOffice$Rules;LSoulOffice$Life;LSoulOffice$Sentence;)V, from 24 -/
theorem b18i_24 (hG : Shp G)
    (z0 : Q (.inl none) (G, c)) :
    T (d + 1) 18 24 [none, none, none, none] [] (G, c) Q := by
  exact e_vret (show decode (mC 18) 24 = .ok (.return_, 1) by decide +kernel) rfl z0
end QB11
