/-! the shape of the heap behind the two constructors -/
def q_shls : List (Nat × Nat) := [(0, 0), (11, 15), (10, 15), (20, 940), (21, 20), (20, 941), (20, 941), (20, 941), (21, 941), (8, 11), (21, 6), (21, 8), (20, 6), (20, 6), (20, 36), (20, 8), (20, 8), (20, 64), (8, 11), (21, 6), (21, 8), (20, 6), (20, 6), (20, 36), (20, 8), (20, 8), (20, 64), (4, 11), (20, 8), (20, 8), (20, 8), (20, 8), (20, 6), (20, 64), (20, 64), (4, 11), (20, 8), (20, 8), (20, 8), (20, 8), (20, 6), (20, 64), (20, 64), (9, 9), (20, 40), (20, 40), (20, 40), (20, 40), (9, 9), (20, 40), (20, 40), (20, 40), (20, 40), (2, 3), (24, 8), (4, 11), (20, 8), (20, 8), (20, 8), (20, 8), (20, 6), (20, 64), (20, 64), (4, 11), (20, 8), (20, 8), (20, 8), (20, 8), (20, 6), (20, 64), (20, 64), (4, 11), (20, 8), (20, 8), (20, 8), (20, 8), (20, 6), (20, 64), (20, 64), (4, 11), (20, 8), (20, 8), (20, 8), (20, 8), (20, 6), (20, 64), (20, 64), (4, 11), (20, 8), (20, 8), (20, 8), (20, 8), (20, 6), (20, 64), (20, 64), (4, 11), (20, 8), (20, 8), (20, 8), (20, 8), (20, 6), (20, 64), (20, 64), (4, 11), (20, 8), (20, 8), (20, 8), (20, 8), (20, 6), (20, 64), (20, 64), (4, 11), (20, 8), (20, 8), (20, 8), (20, 8), (20, 6), (20, 64), (20, 64), (7, 2), (1, 11), (20, 30), (20, 30), (20, 30), (5, 11), (20, 5), (20, 30), (20, 900), (20, 6), (20, 6), (20, 5), (20, 8), (0, 7), (20, 6), (20, 6), (20, 8), (6, 6), (20, 8), (20, 256), (20, 256), (25, 2), (3, 4), (8, 11), (21, 6), (21, 8), (20, 6), (20, 6), (20, 36), (20, 8), (20, 8), (20, 64), (4, 11), (20, 8), (20, 8), (20, 8), (20, 8), (20, 6), (20, 64), (20, 64), (9, 9), (20, 40), (20, 40), (20, 40), (20, 40), (3, 4), (8, 11), (21, 6), (21, 8), (20, 6), (20, 6), (20, 36), (20, 8), (20, 8), (20, 64), (4, 11), (20, 8), (20, 8), (20, 8), (20, 8), (20, 6), (20, 64), (20, 64), (9, 9), (20, 40), (20, 40), (20, 40), (20, 40), (20, 3), (12, 49), (22, 940), (20, 514), (20, 168), (20, 135), (21, 28), (21, 20), (20, 1320), (20, 165), (20, 8), (20, 8), (20, 8), (20, 256), (20, 256), (20, 3), (20, 8), (20, 6), (20, 4), (20, 45), (23, 45), (20, 1028), (21, 28), (23, 2), (21, 1)]
def q_shp (r : Nat) : Nat × Nat := q_shls.getD r (0, 0)
def q_rfls : List (Nat × Nat × Nat) := [(1, 0, 2), (1, 1, 9), (1, 2, 18), (1, 3, 27), (1, 4, 35), (1, 5, 43), (1, 6, 48), (1, 7, 53), (1, 8, 140), (1, 9, 119), (1, 10, 120), (1, 11, 124), (1, 12, 132), (1, 13, 136), (1, 14, 187), (2, 0, 3), (2, 2, 4), (2, 3, 5), (2, 4, 6), (2, 5, 7), (2, 6, 8), (9, 3, 10), (9, 4, 11), (9, 5, 12), (9, 6, 13), (9, 7, 14), (9, 8, 15), (9, 9, 16), (9, 10, 17), (18, 3, 19), (18, 4, 20), (18, 5, 21), (18, 6, 22), (18, 7, 23), (18, 8, 24), (18, 9, 25), (18, 10, 26), (27, 0, 9), (27, 4, 28), (27, 5, 29), (27, 6, 30), (27, 7, 31), (27, 8, 32), (27, 9, 33), (27, 10, 34), (35, 0, 9), (35, 4, 36), (35, 5, 37), (35, 6, 38), (35, 7, 39), (35, 8, 40), (35, 9, 41), (35, 10, 42), (43, 0, 2), (43, 1, 9), (43, 2, 44), (43, 3, 45), (43, 4, 46), (43, 5, 47), (48, 0, 2), (48, 1, 9), (48, 2, 49), (48, 3, 50), (48, 4, 51), (48, 5, 52), (53, 0, 54), (54, 0, 55), (54, 1, 63), (54, 2, 71), (54, 3, 79), (54, 4, 87), (54, 5, 95), (54, 6, 103), (54, 7, 111), (55, 0, 9), (55, 4, 56), (55, 5, 57), (55, 6, 58), (55, 7, 59), (55, 8, 60), (55, 9, 61), (55, 10, 62), (63, 0, 9), (63, 4, 64), (63, 5, 65), (63, 6, 66), (63, 7, 67), (63, 8, 68), (63, 9, 69), (63, 10, 70), (71, 0, 9), (71, 4, 72), (71, 5, 73), (71, 6, 74), (71, 7, 75), (71, 8, 76), (71, 9, 77), (71, 10, 78), (79, 0, 9), (79, 4, 80), (79, 5, 81), (79, 6, 82), (79, 7, 83), (79, 8, 84), (79, 9, 85), (79, 10, 86), (87, 0, 9), (87, 4, 88), (87, 5, 89), (87, 6, 90), (87, 7, 91), (87, 8, 92), (87, 9, 93), (87, 10, 94), (95, 0, 9), (95, 4, 96), (95, 5, 97), (95, 6, 98), (95, 7, 99), (95, 8, 100), (95, 9, 101), (95, 10, 102), (103, 0, 9), (103, 4, 104), (103, 5, 105), (103, 6, 106), (103, 7, 107), (103, 8, 108), (103, 9, 109), (103, 10, 110), (111, 0, 9), (111, 4, 112), (111, 5, 113), (111, 6, 114), (111, 7, 115), (111, 8, 116), (111, 9, 117), (111, 10, 118), (119, 0, 2), (119, 1, 18), (120, 0, 2), (120, 1, 9), (120, 3, 121), (120, 4, 122), (120, 5, 123), (124, 0, 9), (124, 1, 27), (124, 2, 125), (124, 4, 126), (124, 5, 127), (124, 6, 128), (124, 7, 129), (124, 8, 130), (124, 10, 131), (132, 0, 9), (132, 1, 27), (132, 2, 133), (132, 3, 134), (132, 4, 135), (136, 0, 9), (136, 1, 27), (136, 2, 137), (136, 3, 138), (136, 4, 139), (140, 0, 141), (140, 1, 164), (141, 0, 142), (141, 1, 151), (141, 2, 159), (142, 3, 143), (142, 4, 144), (142, 5, 145), (142, 6, 146), (142, 7, 147), (142, 8, 148), (142, 9, 149), (142, 10, 150), (151, 0, 9), (151, 4, 152), (151, 5, 153), (151, 6, 154), (151, 7, 155), (151, 8, 156), (151, 9, 157), (151, 10, 158), (159, 0, 2), (159, 1, 9), (159, 2, 160), (159, 3, 161), (159, 4, 162), (159, 5, 163), (164, 0, 165), (164, 1, 174), (164, 2, 182), (165, 3, 166), (165, 4, 167), (165, 5, 168), (165, 6, 169), (165, 7, 170), (165, 8, 171), (165, 9, 172), (165, 10, 173), (174, 0, 9), (174, 4, 175), (174, 5, 176), (174, 6, 177), (174, 7, 178), (174, 8, 179), (174, 9, 180), (174, 10, 181), (182, 0, 2), (182, 1, 9), (182, 2, 183), (182, 3, 184), (182, 4, 185), (182, 5, 186), (188, 1, 189), (188, 6, 190), (188, 7, 191), (188, 8, 192), (188, 9, 193), (188, 10, 194), (188, 21, 195), (188, 22, 196), (188, 24, 197), (188, 25, 198), (188, 26, 199), (188, 28, 200), (188, 29, 201), (188, 30, 202), (188, 32, 203), (188, 33, 204), (188, 37, 205), (188, 39, 206), (188, 45, 207), (188, 46, 208), (188, 47, 209), (188, 48, 210)]
def Shp (G : GG) : Prop := G.1 = 211 ∧ (∀ r : Nat, r < 212 → G.2.2.1 r = q_shp r) ∧ ∀ q ∈ q_rfls, G.2.2.2.1 q.1 q.2.1 = q.2.2
def Life (a : Nat) : Prop := a ∈ [27, 35, 55, 63, 71, 79, 87, 95, 103, 111, 151, 174]
def Ruls (a : Nat) : Prop := a ∈ [9, 18, 142, 165]
def Sent (a : Nat) : Prop := a ∈ [43, 48, 159, 182]
def q_fm : List (List (Nat × Nat)) := [[(4, 11), (20, 8), (20, 8), (20, 8), (20, 8), (20, 6), (20, 64), (20, 64)], [(8, 11), (21, 6), (21, 8), (20, 6), (20, 6), (20, 36), (20, 8), (20, 8), (20, 64)], [(9, 9), (20, 40), (20, 40), (20, 40), (20, 40)]]
def q_fs (k j : Nat) : Nat × Nat := (q_fm.getD k []).getD j (0, 0)
section Q22
variable {mi d pc t len : Nat} {L L' : LV} {st st' : List AV} {G : GG} {c : CC} {r ci k i n a j : Nat} {x y v : Int} {off : Int} {Q : OO → HH → Prop}
theorem sh_ok (hG : Shp G) (h : (decide (1 ≤ r) && decide (r < 212) && decide ((q_shp r).1 = ci)) = true) : okR G r ci := by
  obtain ⟨h1, h2⟩ := q_bool2 h
  obtain ⟨h1, h3⟩ := q_bool2 h1
  have g3 : r < 212 := of_decide_eq_true h3
  refine ⟨of_decide_eq_true h1, by rw [hG.1]; omega, by omega, ?_⟩
  rw [hG.2.1 r g3]
  exact of_decide_eq_true h2
theorem sh_ln (hG : Shp G) (h : (decide (r < 212) && decide ((q_shp r).2 = n)) = true) : lnR G r n := by
  obtain ⟨h1, h2⟩ := q_bool2 h
  show (G.2.2.1 r).2 = n
  rw [hG.2.1 r (of_decide_eq_true h1)]
  exact of_decide_eq_true h2
theorem sh_rf (hG : Shp G) {w : Nat} (h : q_rfls.contains (r, k, w) = true) : rfR G r k w := hG.2.2 (r, k, w) (by simpa using h)
theorem fm_life : ∀ a ∈ [27, 35, 55, 63, 71, 79, 87, 95, 103, 111, 151, 174], (∀ j : Nat, j < 8 → 1 ≤ a + j ∧ a + j < 212 ∧ q_shp (a + j) = q_fs 0 j) ∧ q_rfls.contains (a, 0, 9) = true ∧ ∀ j : Nat, j < 7 → q_rfls.contains (a, 4 + j, a + (j + 1)) = true := by decide +kernel
theorem fm_ruls : ∀ a ∈ [9, 18, 142, 165], (∀ j : Nat, j < 9 → 1 ≤ a + j ∧ a + j < 212 ∧ q_shp (a + j) = q_fs 1 j) ∧ ∀ j : Nat, j < 8 → q_rfls.contains (a, 3 + j, a + (j + 1)) = true := by decide +kernel
theorem fm_sent : ∀ a ∈ [43, 48, 159, 182], (∀ j : Nat, j < 5 → 1 ≤ a + j ∧ a + j < 212 ∧ q_shp (a + j) = q_fs 2 j) ∧ q_rfls.contains (a, 0, 2) = true ∧ q_rfls.contains (a, 1, 9) = true ∧ ∀ j : Nat, j < 4 → q_rfls.contains (a, 2 + j, a + (j + 1)) = true := by decide +kernel
theorem fm_ok (hG : Shp G) (h1 : 1 ≤ r) (h2 : r < 212) (h3 : (q_shp r).1 = ci) : okR G r ci := ⟨h1, by rw [hG.1]; omega, by omega, by rw [hG.2.1 r h2]; exact h3⟩
theorem lf_ok (hG : Shp G) (ha : Life a) (j : Nat) (h : (decide (j < 8) && decide ((q_fs 0 j).1 = ci)) = true) : okR G (a + j) ci := by
  obtain ⟨h1, h2⟩ := q_bool2 h
  obtain ⟨g1, g2, g3⟩ := (fm_life a ha).1 j (of_decide_eq_true h1)
  exact fm_ok hG g1 g2 (by rw [g3]; exact of_decide_eq_true h2)
theorem lf_ln (hG : Shp G) (ha : Life a) (j : Nat) (h : (decide (j < 8) && decide ((q_fs 0 j).2 = n)) = true) : lnR G (a + j) n := by
  obtain ⟨h1, h2⟩ := q_bool2 h
  obtain ⟨g1, g2, g3⟩ := (fm_life a ha).1 j (of_decide_eq_true h1)
  show (G.2.2.1 (a + j)).2 = n
  rw [hG.2.1 _ g2, g3]
  exact of_decide_eq_true h2
theorem lf_r0 (hG : Shp G) (ha : Life a) : rfR G a 0 9 := sh_rf hG (fm_life a ha).2.1
theorem lf_rf (hG : Shp G) (ha : Life a) (j : Nat) (h : decide (j < 7) = true) : rfR G a (4 + j) (a + (j + 1)) := sh_rf hG ((fm_life a ha).2.2 j (of_decide_eq_true h))
theorem ru_ok (hG : Shp G) (ha : Ruls a) (j : Nat) (h : (decide (j < 9) && decide ((q_fs 1 j).1 = ci)) = true) : okR G (a + j) ci := by
  obtain ⟨h1, h2⟩ := q_bool2 h
  obtain ⟨g1, g2, g3⟩ := (fm_ruls a ha).1 j (of_decide_eq_true h1)
  exact fm_ok hG g1 g2 (by rw [g3]; exact of_decide_eq_true h2)
theorem ru_ln (hG : Shp G) (ha : Ruls a) (j : Nat) (h : (decide (j < 9) && decide ((q_fs 1 j).2 = n)) = true) : lnR G (a + j) n := by
  obtain ⟨h1, h2⟩ := q_bool2 h
  obtain ⟨g1, g2, g3⟩ := (fm_ruls a ha).1 j (of_decide_eq_true h1)
  show (G.2.2.1 (a + j)).2 = n
  rw [hG.2.1 _ g2, g3]
  exact of_decide_eq_true h2
theorem ru_rf (hG : Shp G) (ha : Ruls a) (j : Nat) (h : decide (j < 8) = true) : rfR G a (3 + j) (a + (j + 1)) := sh_rf hG ((fm_ruls a ha).2 j (of_decide_eq_true h))
theorem se_ok (hG : Shp G) (ha : Sent a) (j : Nat) (h : (decide (j < 5) && decide ((q_fs 2 j).1 = ci)) = true) : okR G (a + j) ci := by
  obtain ⟨h1, h2⟩ := q_bool2 h
  obtain ⟨g1, g2, g3⟩ := (fm_sent a ha).1 j (of_decide_eq_true h1)
  exact fm_ok hG g1 g2 (by rw [g3]; exact of_decide_eq_true h2)
theorem se_ln (hG : Shp G) (ha : Sent a) (j : Nat) (h : (decide (j < 5) && decide ((q_fs 2 j).2 = n)) = true) : lnR G (a + j) n := by
  obtain ⟨h1, h2⟩ := q_bool2 h
  obtain ⟨g1, g2, g3⟩ := (fm_sent a ha).1 j (of_decide_eq_true h1)
  show (G.2.2.1 (a + j)).2 = n
  rw [hG.2.1 _ g2, g3]
  exact of_decide_eq_true h2
theorem se_r0 (hG : Shp G) (ha : Sent a) : rfR G a 0 2 := sh_rf hG (fm_sent a ha).2.1
theorem se_r1 (hG : Shp G) (ha : Sent a) : rfR G a 1 9 := sh_rf hG (fm_sent a ha).2.2.1
theorem se_rf (hG : Shp G) (ha : Sent a) (j : Nat) (h : decide (j < 4) = true) : rfR G a (2 + j) (a + (j + 1)) := sh_rf hG ((fm_sent a ha).2.2.2 j (of_decide_eq_true h))
/-! rules for what is left -/
theorem e_i2l (hd : decode (mC mi) pc = .ok (.i2l, 1)) (ix : -2147483648 ≤ x ∧ x < 2147483648) (K : T d mi (pc + 1) L (aL x :: st) (G, c) Q) : T d mi pc L (aI x :: st) (G, c) Q := by
  refine e_P (st' := aL x :: st) hd rfl rfl ?_ K
  show (if q_in x = true then some (aL x :: st) else none) = _
  rw [if_pos (qin_of ix)]
theorem e_irem (hd : decode (mC mi) pc = .ok (.irem, 1)) (hy : ¬ Int32.ofInt y = 0) (K : T d mi (pc + 1) L (aI (q_rem x y) :: st) (G, c) Q) : T d mi pc L (aI y :: aI x :: st) (G, c) Q := by
  refine e_P (st' := aI (q_rem x y) :: st) hd rfl rfl ?_ K
  show (if Int32.ofInt y = 0 then none else some (aI (q_rem x y) :: st)) = _
  rw [if_neg hy]
theorem e_lcmp (hd : decode (mC mi) pc = .ok (.lcmp, 1)) (ix : -9223372036854775808 ≤ x ∧ x < 9223372036854775808) (iy : -9223372036854775808 ≤ y ∧ y < 9223372036854775808) (K : T d mi (pc + 1) L (aI (if x < y then -1 else if x = y then 0 else 1) :: st) (G, c) Q) : T d mi pc L (aL y :: aL x :: st) (G, c) Q := by
  refine e_P (st' := aI (if x < y then -1 else if x = y then 0 else 1) :: st) hd rfl rfl ?_ K
  show (if (q_in8 x && q_in8 y) = true then some (aI (if x < y then -1 else if x = y then 0 else 1) :: st) else none) = _
  rw [if_pos (by simp [q_in8, ix.1, ix.2, iy.1, iy.2])]
theorem e_swd {df lo hi : Int} {offs : Array Int} (hd : decode (mC mi) pc = .ok (.tableswitch df lo hi offs, len)) (ix : -2147483648 ≤ x ∧ x < 2147483648) (hx : x < lo ∨ hi < x) (ht : q_tgt pc df = some t) (K : T d mi t L st (G, c) Q) : T d mi pc L (aI x :: st) (G, c) Q := by
  refine e_J (pc' := t) (st' := st) hd rfl rfl rfl ?_ K
  show (if q_in x = true then (if x < lo ∨ hi < x then (q_tgt pc df).map (fun t => (t, st)) else match offs[(x - lo).toNat]? with | some off => (q_tgt pc off).map (fun t => (t, st)) | none => none) else none) = _
  rw [if_pos (qin_of ix), if_pos hx, ht]
  rfl
theorem e_swj {df lo hi : Int} {offs : Array Int} (v : Int) (hd : decode (mC mi) pc = .ok (.tableswitch df lo hi offs, len)) (hx : x = v) (hv : (decide (-2147483648 ≤ v ∧ v < 2147483648) && decide (lo ≤ v ∧ v ≤ hi) && decide (offs[(v - lo).toNat]? = some off) && decide (q_tgt pc off = some t)) = true) (K : T d mi t L st (G, c) Q) : T d mi pc L (aI x :: st) (G, c) Q := by
  subst hx
  obtain ⟨h1, h4⟩ := q_bool2 hv
  obtain ⟨h1, h3⟩ := q_bool2 h1
  obtain ⟨h1, h2⟩ := q_bool2 h1
  have g2 := of_decide_eq_true h2
  refine e_J (pc' := t) (st' := st) hd rfl rfl rfl ?_ K
  show (if q_in x = true then (if x < lo ∨ hi < x then (q_tgt pc df).map (fun t => (t, st)) else match offs[(x - lo).toNat]? with | some off => (q_tgt pc off).map (fun t => (t, st)) | none => none) else none) = _
  rw [if_pos (qin_of (of_decide_eq_true h1)), if_neg (by omega), of_decide_eq_true h3]
  show (q_tgt pc off).map (fun t => (t, st)) = _
  rw [of_decide_eq_true h4]
  rfl
theorem e_V {as rest : List AV} (hd : decode (mC mi) pc = .ok (.invokevirtual i, 3)) (hc : (match pl (mO mi) i with | some (t, k', _, _) => decide (t = 1) && decide (k' = k) | none => false) = true) (hk : (decide (as.length = mA k) && decide (k < q_law)) = true) (hs : st = as.reverse ++ rest) (hr : q_csum rest ≤ 8) (hle : (q_al as).length ≤ mL k) {a0 : Nat} (ha : as.head? = some (aR a0)) (ho : okR G a0 (mO k))
    (hm : TM d k as (G, c) (fun r h' => T (d + 1) mi (pc + 3) L (r.toList ++ rest) h' Q)) : T (d + 1) mi pc L st (G, c) Q := by
  obtain ⟨h1, h2⟩ := q_bool2 hk
  have h3 : as.length = mA k := of_decide_eq_true h1
  split at hc
  · rename_i t' k' z1 z2 hp
    obtain ⟨g1, g2⟩ := q_bool2 hc
    have g1 := of_decide_eq_true g1
    have g2 := of_decide_eq_true g2
    subst g1
    subst g2
    have hstC : stC mi (.invokevirtual i) st = some (1, k', as, rest) := by
      show (match (pl (mO mi) i).bind (fun q => if q.1 = 1 then some (q.1, q.2.1) else none) with | some (t, k) => (let na := if t = 13 ∨ t = 14 then mA k + 1 else mA k; if na ≤ st.length ∧ q_csum (st.drop na) ≤ 8 ∧ k < q_law then some (t, k, (st.take na).reverse, st.drop na) else none) | none => none) = _
      rw [hp]
      have e1 : mA k' = as.reverse.length := by rw [List.length_reverse, h3]
      simp only [Option.bind_some, if_true, if_neg (show ¬ ((1 : Nat) = 13 ∨ (1 : Nat) = 14) by decide), hs, e1, List.drop_left, List.take_left, List.reverse_reverse]
      rw [if_pos ⟨by simp, hr, of_decide_eq_true h2⟩]
    refine e_C hd rfl rfl ?_ ?_ ?_ ?_ hstC (by decide) ?_ hle hm
    · cases st <;> rfl
    · cases st <;> rfl
    · cases st <;> rfl
    · cases st <;> rfl
    · unfold q_recv
      rw [if_pos (Or.inl rfl)]
      cases as with
      | nil => cases ha
      | cons b bs => cases ha; exact okR_ok ho
  · cases hc
theorem e_S {as rest : List AV} (hd : decode (mC mi) pc = .ok (.invokestatic i, 3)) (hc : (match pl (mO mi) i with | some (t, k', _, _) => (decide (t = 2) || decide (t = 3)) && decide (k' = k) | none => false) = true) (hk : (decide (as.length = mA k) && decide (k < q_law)) = true) (hs : st = as.reverse ++ rest) (hr : q_csum rest ≤ 8) (hle : (q_al as).length ≤ mL k)
    (hm : TM d k as (G, c) (fun r h' => T (d + 1) mi (pc + 3) L (r.toList ++ rest) h' Q)) : T (d + 1) mi pc L st (G, c) Q := by
  obtain ⟨h1, h2⟩ := q_bool2 hk
  have h3 : as.length = mA k := of_decide_eq_true h1
  split at hc
  · rename_i t' k' z1 z2 hp
    obtain ⟨g1, g2⟩ := q_bool2 hc
    have g2 := of_decide_eq_true g2
    have g1 : t' = 2 ∨ t' = 3 := by simpa using g1
    subst g2
    have n13 : ¬ (t' = 13 ∨ t' = 14) := by omega
    have hstC : stC mi (.invokestatic i) st = some (t', k', as, rest) := by
      show (match (pl (mO mi) i).bind (fun q => if q.1 = 2 ∨ q.1 = 3 ∨ q.1 = 13 ∨ q.1 = 14 then some (q.1, q.2.1) else none) with | some (t, k) => (let na := if t = 13 ∨ t = 14 then mA k + 1 else mA k; if na ≤ st.length ∧ q_csum (st.drop na) ≤ 8 ∧ k < q_law then some (t, k, (st.take na).reverse, st.drop na) else none) | none => none) = _
      rw [hp]
      have e1 : mA k' = as.reverse.length := by rw [List.length_reverse, h3]
      simp only [Option.bind_some, if_pos (show t' = 2 ∨ t' = 3 ∨ t' = 13 ∨ t' = 14 by omega), if_neg n13, hs, e1, List.drop_left, List.take_left, List.reverse_reverse]
      rw [if_pos ⟨by simp, hr, of_decide_eq_true h2⟩]
    refine e_C hd rfl rfl ?_ ?_ ?_ ?_ hstC n13 ?_ hle hm
    · cases st <;> rfl
    · cases st <;> rfl
    · unfold stH
      dsimp only
      rw [hp]
      dsimp only
      rw [if_neg (by omega), if_neg (by omega), if_neg (by omega)]
    · cases st <;> rfl
    · unfold q_recv
      rw [if_neg (by omega)]
      exact decide_eq_true g1
  · cases hc
end Q22
