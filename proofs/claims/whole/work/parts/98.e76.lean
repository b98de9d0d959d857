section SPl4
variable {d : Nat} {G : GG} {c : CC} {Q : OO → HH → Prop}
theorem b271_1103 (hG : Shp G) {v4 : Int}
    (s0 : 0 ≤ (v4 + 1))
    (s1 : (v4 + 1) < (G.2.2.2.2.1 : Int))
    (s2 : 0 ≤ (v4 + 2))
    (s3 : (v4 + 2) < (G.2.2.2.2.1 : Int))
    (m4 : TM (d + 1) 147 [aR 1, aI (scr G (v4 + 1)), aI (scr G (v4 + 2))] (G, c) (fun r h' => T (d + 2) 271 1119 [some (aR q_S), some (aR 1), some (aR 188), some (aR 211), some (aI v4), none, none] (r.toList ++ []) h' Q)) :
    T (d + 2) 271 1103 [some (aR q_S), some (aR 1), some (aR 188), some (aR 211), some (aI v4), none, none] [] (G, c) Q := by
  refine e_L (L' := [some (aR q_S), some (aR 1), some (aR 188), some (aR 211), some (aI v4), none, none]) (st' := [aR 1]) (show decode (mC 271) 1103 = .ok (.aload_n 1, 1) by decide +kernel) rfl (by show (if 1 = 0 then none else some (_, _)) = _; rw [if_neg (by decide)]) ?_
  refine e_L (L' := [some (aR q_S), some (aR 1), some (aR 188), some (aR 211), some (aI v4), none, none]) (st' := [aR q_S, aR 1]) (show decode (mC 271) 1104 = .ok (.aload_n 0, 1) by decide +kernel) rfl (by show (if q_S = 0 then none else some (_, _)) = _; rw [if_neg (by decide)]) ?_
  refine e_L (L' := [some (aR q_S), some (aR 1), some (aR 188), some (aR 211), some (aI v4), none, none]) (st' := [aI v4, aR q_S, aR 1]) (show decode (mC 271) 1105 = .ok (.iload 4, 2) by decide +kernel) rfl rfl ?_
  refine e_P (st' := [aI 1, aI v4, aR q_S, aR 1]) (show decode (mC 271) 1107 = .ok (.iconst 1, 1) by decide +kernel) rfl rfl rfl ?_
  refine e_P (st' := [aI (v4 + 1), aR q_S, aR 1]) (show decode (mC 271) 1108 = .ok (.iadd, 1) by decide +kernel) rfl rfl rfl ?_
  refine e_sld (show decode (mC 271) 1109 = .ok (.iaload, 1) by decide +kernel) s0 s1 ?_
  refine e_L (L' := [some (aR q_S), some (aR 1), some (aR 188), some (aR 211), some (aI v4), none, none]) (st' := [aR q_S, aI (scr G (v4 + 1)), aR 1]) (show decode (mC 271) 1110 = .ok (.aload_n 0, 1) by decide +kernel) rfl (by show (if q_S = 0 then none else some (_, _)) = _; rw [if_neg (by decide)]) ?_
  refine e_L (L' := [some (aR q_S), some (aR 1), some (aR 188), some (aR 211), some (aI v4), none, none]) (st' := [aI v4, aR q_S, aI (scr G (v4 + 1)), aR 1]) (show decode (mC 271) 1111 = .ok (.iload 4, 2) by decide +kernel) rfl rfl ?_
  refine e_P (st' := [aI 2, aI v4, aR q_S, aI (scr G (v4 + 1)), aR 1]) (show decode (mC 271) 1113 = .ok (.iconst 2, 1) by decide +kernel) rfl rfl rfl ?_
  refine e_P (st' := [aI (v4 + 2), aR q_S, aI (scr G (v4 + 1)), aR 1]) (show decode (mC 271) 1114 = .ok (.iadd, 1) by decide +kernel) rfl rfl rfl ?_
  refine e_sld (show decode (mC 271) 1115 = .ok (.iaload, 1) by decide +kernel) s2 s3 ?_
  exact e_V (as := [aR 1, aI (scr G (v4 + 1)), aI (scr G (v4 + 2))]) (rest := []) (show decode (mC 271) 1116 = .ok (.invokevirtual 148, 3) by decide +kernel) (by decide +kernel) (show (decide ((3 : Nat) = mA 147) && decide (147 < q_law)) = true by decide +kernel) rfl (show (0 : Nat) ≤ 8 by decide) (show (3 : Nat) ≤ mL 147 by decide +kernel) rfl (sh_ok hG (by decide +kernel)) m4
theorem b271_1119 (hG : Shp G) {v4 u0 : Int}
    (s0 : 0 ≤ (v4 + 1))
    (s1 : (v4 + 1) < (G.2.2.2.2.1 : Int))
    (s2 : 0 ≤ (v4 + 2))
    (s3 : (v4 + 2) < (G.2.2.2.2.1 : Int))
    (m4 : TM (d + 1) 245 [aR 188, aI (scr G (v4 + 1)), aI (scr G (v4 + 2))] (G, c) (fun r h' => T (d + 2) 271 1135 [some (aR q_S), some (aR 1), some (aR 188), some (aR 211), some (aI v4), none, none] (r.toList ++ [aI u0]) h' Q)) :
    T (d + 2) 271 1119 [some (aR q_S), some (aR 1), some (aR 188), some (aR 211), some (aI v4), none, none] [aI u0] (G, c) Q := by
  refine e_L (L' := [some (aR q_S), some (aR 1), some (aR 188), some (aR 211), some (aI v4), none, none]) (st' := [aR 188, aI u0]) (show decode (mC 271) 1119 = .ok (.aload_n 2, 1) by decide +kernel) rfl (by show (if 188 = 0 then none else some (_, _)) = _; rw [if_neg (by decide)]) ?_
  refine e_L (L' := [some (aR q_S), some (aR 1), some (aR 188), some (aR 211), some (aI v4), none, none]) (st' := [aR q_S, aR 188, aI u0]) (show decode (mC 271) 1120 = .ok (.aload_n 0, 1) by decide +kernel) rfl (by show (if q_S = 0 then none else some (_, _)) = _; rw [if_neg (by decide)]) ?_
  refine e_L (L' := [some (aR q_S), some (aR 1), some (aR 188), some (aR 211), some (aI v4), none, none]) (st' := [aI v4, aR q_S, aR 188, aI u0]) (show decode (mC 271) 1121 = .ok (.iload 4, 2) by decide +kernel) rfl rfl ?_
  refine e_P (st' := [aI 1, aI v4, aR q_S, aR 188, aI u0]) (show decode (mC 271) 1123 = .ok (.iconst 1, 1) by decide +kernel) rfl rfl rfl ?_
  refine e_P (st' := [aI (v4 + 1), aR q_S, aR 188, aI u0]) (show decode (mC 271) 1124 = .ok (.iadd, 1) by decide +kernel) rfl rfl rfl ?_
  refine e_sld (show decode (mC 271) 1125 = .ok (.iaload, 1) by decide +kernel) s0 s1 ?_
  refine e_L (L' := [some (aR q_S), some (aR 1), some (aR 188), some (aR 211), some (aI v4), none, none]) (st' := [aR q_S, aI (scr G (v4 + 1)), aR 188, aI u0]) (show decode (mC 271) 1126 = .ok (.aload_n 0, 1) by decide +kernel) rfl (by show (if q_S = 0 then none else some (_, _)) = _; rw [if_neg (by decide)]) ?_
  refine e_L (L' := [some (aR q_S), some (aR 1), some (aR 188), some (aR 211), some (aI v4), none, none]) (st' := [aI v4, aR q_S, aI (scr G (v4 + 1)), aR 188, aI u0]) (show decode (mC 271) 1127 = .ok (.iload 4, 2) by decide +kernel) rfl rfl ?_
  refine e_P (st' := [aI 2, aI v4, aR q_S, aI (scr G (v4 + 1)), aR 188, aI u0]) (show decode (mC 271) 1129 = .ok (.iconst 2, 1) by decide +kernel) rfl rfl rfl ?_
  refine e_P (st' := [aI (v4 + 2), aR q_S, aI (scr G (v4 + 1)), aR 188, aI u0]) (show decode (mC 271) 1130 = .ok (.iadd, 1) by decide +kernel) rfl rfl rfl ?_
  refine e_sld (show decode (mC 271) 1131 = .ok (.iaload, 1) by decide +kernel) s2 s3 ?_
  exact e_V (as := [aR 188, aI (scr G (v4 + 1)), aI (scr G (v4 + 2))]) (rest := [aI u0]) (show decode (mC 271) 1132 = .ok (.invokevirtual 151, 3) by decide +kernel) (by decide +kernel) (show (decide ((3 : Nat) = mA 245) && decide (245 < q_law)) = true by decide +kernel) rfl (show (1 : Nat) ≤ 8 by decide) (show (3 : Nat) ≤ mL 245 by decide +kernel) rfl (sh_ok hG (by decide +kernel)) m4
theorem b271_1135 (hG : Shp G) {v4 u0 u1 : Int}
    (s0 : -2147483648 ≤ u0 ∧ u0 < 2147483648)
    (s1 : -2147483648 ≤ u1 ∧ u1 < 2147483648)
    (k2 : (u0 = u1) → T (d + 2) 271 1328 [some (aR q_S), some (aR 1), some (aR 188), some (aR 211), some (aI v4), none, none] [] (G, c) Q)
    (z3 : (¬ u0 = u1) → Q (.inl (some (aI 0))) (G, c)) :
    T (d + 2) 271 1135 [some (aR q_S), some (aR 1), some (aR 188), some (aR 211), some (aI v4), none, none] [aI u1, aI u0] (G, c) Q := by
  refine e_eq2 (t := 1328) (show decode (mC 271) 1135 = .ok (.if_icmp .eq 193, 3) by decide +kernel) (by decide) s0 s1 (fun p1 => ?_) (fun p1 => ?_)
  · exact (k2 p1)
  · refine e_P (st' := [aI 0]) (show decode (mC 271) 1138 = .ok (.iconst 0, 1) by decide +kernel) rfl rfl rfl ?_
    exact e_zret (show decode (mC 271) 1139 = .ok (.ireturn, 1) by decide +kernel) rfl (by decide) (z3 p1)
theorem b271_1140 (hG : Shp G) {v4 : Int}
    (s0 : 0 ≤ (v4 + 1))
    (s1 : (v4 + 1) < (G.2.2.2.2.1 : Int))
    (m2 : TM (d + 1) 125 [aR 1, aI (scr G (v4 + 1))] (G, c) (fun r h' => T (d + 2) 271 1150 [some (aR q_S), some (aR 1), some (aR 188), some (aR 211), some (aI v4), none, none] (r.toList ++ []) h' Q)) :
    T (d + 2) 271 1140 [some (aR q_S), some (aR 1), some (aR 188), some (aR 211), some (aI v4), none, none] [] (G, c) Q := by
  refine e_L (L' := [some (aR q_S), some (aR 1), some (aR 188), some (aR 211), some (aI v4), none, none]) (st' := [aR 1]) (show decode (mC 271) 1140 = .ok (.aload_n 1, 1) by decide +kernel) rfl (by show (if 1 = 0 then none else some (_, _)) = _; rw [if_neg (by decide)]) ?_
  refine e_L (L' := [some (aR q_S), some (aR 1), some (aR 188), some (aR 211), some (aI v4), none, none]) (st' := [aR q_S, aR 1]) (show decode (mC 271) 1141 = .ok (.aload_n 0, 1) by decide +kernel) rfl (by show (if q_S = 0 then none else some (_, _)) = _; rw [if_neg (by decide)]) ?_
  refine e_L (L' := [some (aR q_S), some (aR 1), some (aR 188), some (aR 211), some (aI v4), none, none]) (st' := [aI v4, aR q_S, aR 1]) (show decode (mC 271) 1142 = .ok (.iload 4, 2) by decide +kernel) rfl rfl ?_
  refine e_P (st' := [aI 1, aI v4, aR q_S, aR 1]) (show decode (mC 271) 1144 = .ok (.iconst 1, 1) by decide +kernel) rfl rfl rfl ?_
  refine e_P (st' := [aI (v4 + 1), aR q_S, aR 1]) (show decode (mC 271) 1145 = .ok (.iadd, 1) by decide +kernel) rfl rfl rfl ?_
  refine e_sld (show decode (mC 271) 1146 = .ok (.iaload, 1) by decide +kernel) s0 s1 ?_
  exact e_V (as := [aR 1, aI (scr G (v4 + 1))]) (rest := []) (show decode (mC 271) 1147 = .ok (.invokevirtual 152, 3) by decide +kernel) (by decide +kernel) (show (decide ((2 : Nat) = mA 125) && decide (125 < q_law)) = true by decide +kernel) rfl (show (0 : Nat) ≤ 8 by decide) (show (2 : Nat) ≤ mL 125 by decide +kernel) rfl (sh_ok hG (by decide +kernel)) m2
theorem b271_1150 (hG : Shp G) {v4 u0 : Int}
    (s0 : 0 ≤ (v4 + 1))
    (s1 : (v4 + 1) < (G.2.2.2.2.1 : Int))
    (m2 : TM (d + 1) 247 [aR 188, aI (scr G (v4 + 1))] (G, c) (fun r h' => T (d + 2) 271 1160 [some (aR q_S), some (aR 1), some (aR 188), some (aR 211), some (aI v4), none, none] (r.toList ++ [aI u0]) h' Q)) :
    T (d + 2) 271 1150 [some (aR q_S), some (aR 1), some (aR 188), some (aR 211), some (aI v4), none, none] [aI u0] (G, c) Q := by
  refine e_L (L' := [some (aR q_S), some (aR 1), some (aR 188), some (aR 211), some (aI v4), none, none]) (st' := [aR 188, aI u0]) (show decode (mC 271) 1150 = .ok (.aload_n 2, 1) by decide +kernel) rfl (by show (if 188 = 0 then none else some (_, _)) = _; rw [if_neg (by decide)]) ?_
  refine e_L (L' := [some (aR q_S), some (aR 1), some (aR 188), some (aR 211), some (aI v4), none, none]) (st' := [aR q_S, aR 188, aI u0]) (show decode (mC 271) 1151 = .ok (.aload_n 0, 1) by decide +kernel) rfl (by show (if q_S = 0 then none else some (_, _)) = _; rw [if_neg (by decide)]) ?_
  refine e_L (L' := [some (aR q_S), some (aR 1), some (aR 188), some (aR 211), some (aI v4), none, none]) (st' := [aI v4, aR q_S, aR 188, aI u0]) (show decode (mC 271) 1152 = .ok (.iload 4, 2) by decide +kernel) rfl rfl ?_
  refine e_P (st' := [aI 1, aI v4, aR q_S, aR 188, aI u0]) (show decode (mC 271) 1154 = .ok (.iconst 1, 1) by decide +kernel) rfl rfl rfl ?_
  refine e_P (st' := [aI (v4 + 1), aR q_S, aR 188, aI u0]) (show decode (mC 271) 1155 = .ok (.iadd, 1) by decide +kernel) rfl rfl rfl ?_
  refine e_sld (show decode (mC 271) 1156 = .ok (.iaload, 1) by decide +kernel) s0 s1 ?_
  exact e_V (as := [aR 188, aI (scr G (v4 + 1))]) (rest := [aI u0]) (show decode (mC 271) 1157 = .ok (.invokevirtual 155, 3) by decide +kernel) (by decide +kernel) (show (decide ((2 : Nat) = mA 247) && decide (247 < q_law)) = true by decide +kernel) rfl (show (1 : Nat) ≤ 8 by decide) (show (2 : Nat) ≤ mL 247 by decide +kernel) rfl (sh_ok hG (by decide +kernel)) m2
theorem b271_1160 (hG : Shp G) {v4 u0 u1 : Int}
    (s0 : -2147483648 ≤ u0 ∧ u0 < 2147483648)
    (s1 : -2147483648 ≤ u1 ∧ u1 < 2147483648)
    (k2 : (u0 = u1) → T (d + 2) 271 1328 [some (aR q_S), some (aR 1), some (aR 188), some (aR 211), some (aI v4), none, none] [] (G, c) Q)
    (z3 : (¬ u0 = u1) → Q (.inl (some (aI 0))) (G, c)) :
    T (d + 2) 271 1160 [some (aR q_S), some (aR 1), some (aR 188), some (aR 211), some (aI v4), none, none] [aI u1, aI u0] (G, c) Q := by
  refine e_eq2 (t := 1328) (show decode (mC 271) 1160 = .ok (.if_icmp .eq 168, 3) by decide +kernel) (by decide) s0 s1 (fun p1 => ?_) (fun p1 => ?_)
  · exact (k2 p1)
  · refine e_P (st' := [aI 0]) (show decode (mC 271) 1163 = .ok (.iconst 0, 1) by decide +kernel) rfl rfl rfl ?_
    exact e_zret (show decode (mC 271) 1164 = .ok (.ireturn, 1) by decide +kernel) rfl (by decide) (z3 p1)
theorem b271_1165 (hG : Shp G) {v4 : Int}
    (s0 : 0 ≤ (v4 + 1))
    (s1 : (v4 + 1) < (G.2.2.2.2.1 : Int))
    (m2 : TM (d + 1) 114 [aR 1, aI (scr G (v4 + 1))] (G, c) (fun r h' => T (d + 2) 271 1175 [some (aR q_S), some (aR 1), some (aR 188), some (aR 211), some (aI v4), none, none] (r.toList ++ []) h' Q)) :
    T (d + 2) 271 1165 [some (aR q_S), some (aR 1), some (aR 188), some (aR 211), some (aI v4), none, none] [] (G, c) Q := by
  refine e_L (L' := [some (aR q_S), some (aR 1), some (aR 188), some (aR 211), some (aI v4), none, none]) (st' := [aR 1]) (show decode (mC 271) 1165 = .ok (.aload_n 1, 1) by decide +kernel) rfl (by show (if 1 = 0 then none else some (_, _)) = _; rw [if_neg (by decide)]) ?_
  refine e_L (L' := [some (aR q_S), some (aR 1), some (aR 188), some (aR 211), some (aI v4), none, none]) (st' := [aR q_S, aR 1]) (show decode (mC 271) 1166 = .ok (.aload_n 0, 1) by decide +kernel) rfl (by show (if q_S = 0 then none else some (_, _)) = _; rw [if_neg (by decide)]) ?_
  refine e_L (L' := [some (aR q_S), some (aR 1), some (aR 188), some (aR 211), some (aI v4), none, none]) (st' := [aI v4, aR q_S, aR 1]) (show decode (mC 271) 1167 = .ok (.iload 4, 2) by decide +kernel) rfl rfl ?_
  refine e_P (st' := [aI 1, aI v4, aR q_S, aR 1]) (show decode (mC 271) 1169 = .ok (.iconst 1, 1) by decide +kernel) rfl rfl rfl ?_
  refine e_P (st' := [aI (v4 + 1), aR q_S, aR 1]) (show decode (mC 271) 1170 = .ok (.iadd, 1) by decide +kernel) rfl rfl rfl ?_
  refine e_sld (show decode (mC 271) 1171 = .ok (.iaload, 1) by decide +kernel) s0 s1 ?_
  exact e_V (as := [aR 1, aI (scr G (v4 + 1))]) (rest := []) (show decode (mC 271) 1172 = .ok (.invokevirtual 156, 3) by decide +kernel) (by decide +kernel) (show (decide ((2 : Nat) = mA 114) && decide (114 < q_law)) = true by decide +kernel) rfl (show (0 : Nat) ≤ 8 by decide) (show (2 : Nat) ≤ mL 114 by decide +kernel) rfl (sh_ok hG (by decide +kernel)) m2
theorem b271_1175 (hG : Shp G) {v4 u0 : Int}
    (s0 : 0 ≤ (v4 + 1))
    (s1 : (v4 + 1) < (G.2.2.2.2.1 : Int))
    (m2 : TM (d + 1) 250 [aR 188, aI (scr G (v4 + 1))] (G, c) (fun r h' => T (d + 2) 271 1185 [some (aR q_S), some (aR 1), some (aR 188), some (aR 211), some (aI v4), none, none] (r.toList ++ [aI u0]) h' Q)) :
    T (d + 2) 271 1175 [some (aR q_S), some (aR 1), some (aR 188), some (aR 211), some (aI v4), none, none] [aI u0] (G, c) Q := by
  refine e_L (L' := [some (aR q_S), some (aR 1), some (aR 188), some (aR 211), some (aI v4), none, none]) (st' := [aR 188, aI u0]) (show decode (mC 271) 1175 = .ok (.aload_n 2, 1) by decide +kernel) rfl (by show (if 188 = 0 then none else some (_, _)) = _; rw [if_neg (by decide)]) ?_
  refine e_L (L' := [some (aR q_S), some (aR 1), some (aR 188), some (aR 211), some (aI v4), none, none]) (st' := [aR q_S, aR 188, aI u0]) (show decode (mC 271) 1176 = .ok (.aload_n 0, 1) by decide +kernel) rfl (by show (if q_S = 0 then none else some (_, _)) = _; rw [if_neg (by decide)]) ?_
  refine e_L (L' := [some (aR q_S), some (aR 1), some (aR 188), some (aR 211), some (aI v4), none, none]) (st' := [aI v4, aR q_S, aR 188, aI u0]) (show decode (mC 271) 1177 = .ok (.iload 4, 2) by decide +kernel) rfl rfl ?_
  refine e_P (st' := [aI 1, aI v4, aR q_S, aR 188, aI u0]) (show decode (mC 271) 1179 = .ok (.iconst 1, 1) by decide +kernel) rfl rfl rfl ?_
  refine e_P (st' := [aI (v4 + 1), aR q_S, aR 188, aI u0]) (show decode (mC 271) 1180 = .ok (.iadd, 1) by decide +kernel) rfl rfl rfl ?_
  refine e_sld (show decode (mC 271) 1181 = .ok (.iaload, 1) by decide +kernel) s0 s1 ?_
  exact e_V (as := [aR 188, aI (scr G (v4 + 1))]) (rest := [aI u0]) (show decode (mC 271) 1182 = .ok (.invokevirtual 159, 3) by decide +kernel) (by decide +kernel) (show (decide ((2 : Nat) = mA 250) && decide (250 < q_law)) = true by decide +kernel) rfl (show (1 : Nat) ≤ 8 by decide) (show (2 : Nat) ≤ mL 250 by decide +kernel) rfl (sh_ok hG (by decide +kernel)) m2
theorem b271_1185 (hG : Shp G) {v4 u0 u1 : Int}
    (s0 : -2147483648 ≤ u0 ∧ u0 < 2147483648)
    (s1 : -2147483648 ≤ u1 ∧ u1 < 2147483648)
    (k2 : (u0 = u1) → T (d + 2) 271 1328 [some (aR q_S), some (aR 1), some (aR 188), some (aR 211), some (aI v4), none, none] [] (G, c) Q)
    (z3 : (¬ u0 = u1) → Q (.inl (some (aI 0))) (G, c)) :
    T (d + 2) 271 1185 [some (aR q_S), some (aR 1), some (aR 188), some (aR 211), some (aI v4), none, none] [aI u1, aI u0] (G, c) Q := by
  refine e_eq2 (t := 1328) (show decode (mC 271) 1185 = .ok (.if_icmp .eq 143, 3) by decide +kernel) (by decide) s0 s1 (fun p1 => ?_) (fun p1 => ?_)
  · exact (k2 p1)
  · refine e_P (st' := [aI 0]) (show decode (mC 271) 1188 = .ok (.iconst 0, 1) by decide +kernel) rfl rfl rfl ?_
    exact e_zret (show decode (mC 271) 1189 = .ok (.ireturn, 1) by decide +kernel) rfl (by decide) (z3 p1)
theorem b271_1190 (hG : Shp G) {v4 : Int}
    (s0 : 0 ≤ (v4 + 1))
    (s1 : (v4 + 1) < (G.2.2.2.2.1 : Int))
    (m2 : TM (d + 1) 115 [aR 1, aI (scr G (v4 + 1))] (G, c) (fun r h' => T (d + 2) 271 1200 [some (aR q_S), some (aR 1), some (aR 188), some (aR 211), some (aI v4), none, none] (r.toList ++ []) h' Q)) :
    T (d + 2) 271 1190 [some (aR q_S), some (aR 1), some (aR 188), some (aR 211), some (aI v4), none, none] [] (G, c) Q := by
  refine e_L (L' := [some (aR q_S), some (aR 1), some (aR 188), some (aR 211), some (aI v4), none, none]) (st' := [aR 1]) (show decode (mC 271) 1190 = .ok (.aload_n 1, 1) by decide +kernel) rfl (by show (if 1 = 0 then none else some (_, _)) = _; rw [if_neg (by decide)]) ?_
  refine e_L (L' := [some (aR q_S), some (aR 1), some (aR 188), some (aR 211), some (aI v4), none, none]) (st' := [aR q_S, aR 1]) (show decode (mC 271) 1191 = .ok (.aload_n 0, 1) by decide +kernel) rfl (by show (if q_S = 0 then none else some (_, _)) = _; rw [if_neg (by decide)]) ?_
  refine e_L (L' := [some (aR q_S), some (aR 1), some (aR 188), some (aR 211), some (aI v4), none, none]) (st' := [aI v4, aR q_S, aR 1]) (show decode (mC 271) 1192 = .ok (.iload 4, 2) by decide +kernel) rfl rfl ?_
  refine e_P (st' := [aI 1, aI v4, aR q_S, aR 1]) (show decode (mC 271) 1194 = .ok (.iconst 1, 1) by decide +kernel) rfl rfl rfl ?_
  refine e_P (st' := [aI (v4 + 1), aR q_S, aR 1]) (show decode (mC 271) 1195 = .ok (.iadd, 1) by decide +kernel) rfl rfl rfl ?_
  refine e_sld (show decode (mC 271) 1196 = .ok (.iaload, 1) by decide +kernel) s0 s1 ?_
  exact e_V (as := [aR 1, aI (scr G (v4 + 1))]) (rest := []) (show decode (mC 271) 1197 = .ok (.invokevirtual 160, 3) by decide +kernel) (by decide +kernel) (show (decide ((2 : Nat) = mA 115) && decide (115 < q_law)) = true by decide +kernel) rfl (show (0 : Nat) ≤ 8 by decide) (show (2 : Nat) ≤ mL 115 by decide +kernel) rfl (sh_ok hG (by decide +kernel)) m2
theorem b271_1200 (hG : Shp G) {v4 u0 : Int}
    (s0 : 0 ≤ (v4 + 1))
    (s1 : (v4 + 1) < (G.2.2.2.2.1 : Int))
    (m2 : TM (d + 1) 251 [aR 188, aI (scr G (v4 + 1))] (G, c) (fun r h' => T (d + 2) 271 1210 [some (aR q_S), some (aR 1), some (aR 188), some (aR 211), some (aI v4), none, none] (r.toList ++ [aI u0]) h' Q)) :
    T (d + 2) 271 1200 [some (aR q_S), some (aR 1), some (aR 188), some (aR 211), some (aI v4), none, none] [aI u0] (G, c) Q := by
  refine e_L (L' := [some (aR q_S), some (aR 1), some (aR 188), some (aR 211), some (aI v4), none, none]) (st' := [aR 188, aI u0]) (show decode (mC 271) 1200 = .ok (.aload_n 2, 1) by decide +kernel) rfl (by show (if 188 = 0 then none else some (_, _)) = _; rw [if_neg (by decide)]) ?_
  refine e_L (L' := [some (aR q_S), some (aR 1), some (aR 188), some (aR 211), some (aI v4), none, none]) (st' := [aR q_S, aR 188, aI u0]) (show decode (mC 271) 1201 = .ok (.aload_n 0, 1) by decide +kernel) rfl (by show (if q_S = 0 then none else some (_, _)) = _; rw [if_neg (by decide)]) ?_
  refine e_L (L' := [some (aR q_S), some (aR 1), some (aR 188), some (aR 211), some (aI v4), none, none]) (st' := [aI v4, aR q_S, aR 188, aI u0]) (show decode (mC 271) 1202 = .ok (.iload 4, 2) by decide +kernel) rfl rfl ?_
  refine e_P (st' := [aI 1, aI v4, aR q_S, aR 188, aI u0]) (show decode (mC 271) 1204 = .ok (.iconst 1, 1) by decide +kernel) rfl rfl rfl ?_
  refine e_P (st' := [aI (v4 + 1), aR q_S, aR 188, aI u0]) (show decode (mC 271) 1205 = .ok (.iadd, 1) by decide +kernel) rfl rfl rfl ?_
  refine e_sld (show decode (mC 271) 1206 = .ok (.iaload, 1) by decide +kernel) s0 s1 ?_
  exact e_V (as := [aR 188, aI (scr G (v4 + 1))]) (rest := [aI u0]) (show decode (mC 271) 1207 = .ok (.invokevirtual 163, 3) by decide +kernel) (by decide +kernel) (show (decide ((2 : Nat) = mA 251) && decide (251 < q_law)) = true by decide +kernel) rfl (show (1 : Nat) ≤ 8 by decide) (show (2 : Nat) ≤ mL 251 by decide +kernel) rfl (sh_ok hG (by decide +kernel)) m2
theorem b271_1210 (hG : Shp G) {v4 u0 u1 : Int}
    (s0 : -2147483648 ≤ u0 ∧ u0 < 2147483648)
    (s1 : -2147483648 ≤ u1 ∧ u1 < 2147483648)
    (k2 : (u0 = u1) → T (d + 2) 271 1328 [some (aR q_S), some (aR 1), some (aR 188), some (aR 211), some (aI v4), none, none] [] (G, c) Q)
    (z3 : (¬ u0 = u1) → Q (.inl (some (aI 0))) (G, c)) :
    T (d + 2) 271 1210 [some (aR q_S), some (aR 1), some (aR 188), some (aR 211), some (aI v4), none, none] [aI u1, aI u0] (G, c) Q := by
  refine e_eq2 (t := 1328) (show decode (mC 271) 1210 = .ok (.if_icmp .eq 118, 3) by decide +kernel) (by decide) s0 s1 (fun p1 => ?_) (fun p1 => ?_)
  · exact (k2 p1)
  · refine e_P (st' := [aI 0]) (show decode (mC 271) 1213 = .ok (.iconst 0, 1) by decide +kernel) rfl rfl rfl ?_
    exact e_zret (show decode (mC 271) 1214 = .ok (.ireturn, 1) by decide +kernel) rfl (by decide) (z3 p1)
theorem b271_1215 (hG : Shp G) {v4 : Int}
    (m0 : TM (d + 1) 116 [aR 1] (G, c) (fun r h' => T (d + 2) 271 1219 [some (aR q_S), some (aR 1), some (aR 188), some (aR 211), some (aI v4), none, none] (r.toList ++ []) h' Q)) :
    T (d + 2) 271 1215 [some (aR q_S), some (aR 1), some (aR 188), some (aR 211), some (aI v4), none, none] [] (G, c) Q := by
  refine e_L (L' := [some (aR q_S), some (aR 1), some (aR 188), some (aR 211), some (aI v4), none, none]) (st' := [aR 1]) (show decode (mC 271) 1215 = .ok (.aload_n 1, 1) by decide +kernel) rfl (by show (if 1 = 0 then none else some (_, _)) = _; rw [if_neg (by decide)]) ?_
  exact e_V (as := [aR 1]) (rest := []) (show decode (mC 271) 1216 = .ok (.invokevirtual 164, 3) by decide +kernel) (by decide +kernel) (show (decide ((1 : Nat) = mA 116) && decide (116 < q_law)) = true by decide +kernel) rfl (show (0 : Nat) ≤ 8 by decide) (show (1 : Nat) ≤ mL 116 by decide +kernel) rfl (sh_ok hG (by decide +kernel)) m0
theorem b271_1219 (hG : Shp G) {v4 u0 : Int}
    (m0 : TM (d + 1) 258 [aR 188] (G, c) (fun r h' => T (d + 2) 271 1223 [some (aR q_S), some (aR 1), some (aR 188), some (aR 211), some (aI v4), none, none] (r.toList ++ [aI u0]) h' Q)) :
    T (d + 2) 271 1219 [some (aR q_S), some (aR 1), some (aR 188), some (aR 211), some (aI v4), none, none] [aI u0] (G, c) Q := by
  refine e_L (L' := [some (aR q_S), some (aR 1), some (aR 188), some (aR 211), some (aI v4), none, none]) (st' := [aR 188, aI u0]) (show decode (mC 271) 1219 = .ok (.aload_n 2, 1) by decide +kernel) rfl (by show (if 188 = 0 then none else some (_, _)) = _; rw [if_neg (by decide)]) ?_
  exact e_V (as := [aR 188]) (rest := [aI u0]) (show decode (mC 271) 1220 = .ok (.invokevirtual 167, 3) by decide +kernel) (by decide +kernel) (show (decide ((1 : Nat) = mA 258) && decide (258 < q_law)) = true by decide +kernel) rfl (show (1 : Nat) ≤ 8 by decide) (show (1 : Nat) ≤ mL 258 by decide +kernel) rfl (sh_ok hG (by decide +kernel)) m0
theorem b271_1223 (hG : Shp G) {v4 u0 u1 : Int}
    (s0 : -2147483648 ≤ u0 ∧ u0 < 2147483648)
    (s1 : -2147483648 ≤ u1 ∧ u1 < 2147483648)
    (k2 : (u0 = u1) → T (d + 2) 271 1328 [some (aR q_S), some (aR 1), some (aR 188), some (aR 211), some (aI v4), none, none] [] (G, c) Q)
    (z3 : (¬ u0 = u1) → Q (.inl (some (aI 0))) (G, c)) :
    T (d + 2) 271 1223 [some (aR q_S), some (aR 1), some (aR 188), some (aR 211), some (aI v4), none, none] [aI u1, aI u0] (G, c) Q := by
  refine e_eq2 (t := 1328) (show decode (mC 271) 1223 = .ok (.if_icmp .eq 105, 3) by decide +kernel) (by decide) s0 s1 (fun p1 => ?_) (fun p1 => ?_)
  · exact (k2 p1)
  · refine e_P (st' := [aI 0]) (show decode (mC 271) 1226 = .ok (.iconst 0, 1) by decide +kernel) rfl rfl rfl ?_
    exact e_zret (show decode (mC 271) 1227 = .ok (.ireturn, 1) by decide +kernel) rfl (by decide) (z3 p1)
theorem b271_1228 (hG : Shp G) {v4 : Int}
    (s0 : 0 ≤ (v4 + 1))
    (s1 : (v4 + 1) < (G.2.2.2.2.1 : Int))
    (m2 : TM (d + 1) 117 [aR 1, aI (scr G (v4 + 1))] (G, c) (fun r h' => T (d + 2) 271 1238 [some (aR q_S), some (aR 1), some (aR 188), some (aR 211), some (aI v4), none, none] (r.toList ++ []) h' Q)) :
    T (d + 2) 271 1228 [some (aR q_S), some (aR 1), some (aR 188), some (aR 211), some (aI v4), none, none] [] (G, c) Q := by
  refine e_L (L' := [some (aR q_S), some (aR 1), some (aR 188), some (aR 211), some (aI v4), none, none]) (st' := [aR 1]) (show decode (mC 271) 1228 = .ok (.aload_n 1, 1) by decide +kernel) rfl (by show (if 1 = 0 then none else some (_, _)) = _; rw [if_neg (by decide)]) ?_
  refine e_L (L' := [some (aR q_S), some (aR 1), some (aR 188), some (aR 211), some (aI v4), none, none]) (st' := [aR q_S, aR 1]) (show decode (mC 271) 1229 = .ok (.aload_n 0, 1) by decide +kernel) rfl (by show (if q_S = 0 then none else some (_, _)) = _; rw [if_neg (by decide)]) ?_
  refine e_L (L' := [some (aR q_S), some (aR 1), some (aR 188), some (aR 211), some (aI v4), none, none]) (st' := [aI v4, aR q_S, aR 1]) (show decode (mC 271) 1230 = .ok (.iload 4, 2) by decide +kernel) rfl rfl ?_
  refine e_P (st' := [aI 1, aI v4, aR q_S, aR 1]) (show decode (mC 271) 1232 = .ok (.iconst 1, 1) by decide +kernel) rfl rfl rfl ?_
  refine e_P (st' := [aI (v4 + 1), aR q_S, aR 1]) (show decode (mC 271) 1233 = .ok (.iadd, 1) by decide +kernel) rfl rfl rfl ?_
  refine e_sld (show decode (mC 271) 1234 = .ok (.iaload, 1) by decide +kernel) s0 s1 ?_
  exact e_V (as := [aR 1, aI (scr G (v4 + 1))]) (rest := []) (show decode (mC 271) 1235 = .ok (.invokevirtual 168, 3) by decide +kernel) (by decide +kernel) (show (decide ((2 : Nat) = mA 117) && decide (117 < q_law)) = true by decide +kernel) rfl (show (0 : Nat) ≤ 8 by decide) (show (2 : Nat) ≤ mL 117 by decide +kernel) rfl (sh_ok hG (by decide +kernel)) m2
theorem b271_1238 (hG : Shp G) {v4 u0 : Int}
    (s0 : 0 ≤ (v4 + 1))
    (s1 : (v4 + 1) < (G.2.2.2.2.1 : Int))
    (m2 : TM (d + 1) 261 [aR 188, aI (scr G (v4 + 1))] (G, c) (fun r h' => T (d + 2) 271 1248 [some (aR q_S), some (aR 1), some (aR 188), some (aR 211), some (aI v4), none, none] (r.toList ++ [aI u0]) h' Q)) :
    T (d + 2) 271 1238 [some (aR q_S), some (aR 1), some (aR 188), some (aR 211), some (aI v4), none, none] [aI u0] (G, c) Q := by
  refine e_L (L' := [some (aR q_S), some (aR 1), some (aR 188), some (aR 211), some (aI v4), none, none]) (st' := [aR 188, aI u0]) (show decode (mC 271) 1238 = .ok (.aload_n 2, 1) by decide +kernel) rfl (by show (if 188 = 0 then none else some (_, _)) = _; rw [if_neg (by decide)]) ?_
  refine e_L (L' := [some (aR q_S), some (aR 1), some (aR 188), some (aR 211), some (aI v4), none, none]) (st' := [aR q_S, aR 188, aI u0]) (show decode (mC 271) 1239 = .ok (.aload_n 0, 1) by decide +kernel) rfl (by show (if q_S = 0 then none else some (_, _)) = _; rw [if_neg (by decide)]) ?_
  refine e_L (L' := [some (aR q_S), some (aR 1), some (aR 188), some (aR 211), some (aI v4), none, none]) (st' := [aI v4, aR q_S, aR 188, aI u0]) (show decode (mC 271) 1240 = .ok (.iload 4, 2) by decide +kernel) rfl rfl ?_
  refine e_P (st' := [aI 1, aI v4, aR q_S, aR 188, aI u0]) (show decode (mC 271) 1242 = .ok (.iconst 1, 1) by decide +kernel) rfl rfl rfl ?_
  refine e_P (st' := [aI (v4 + 1), aR q_S, aR 188, aI u0]) (show decode (mC 271) 1243 = .ok (.iadd, 1) by decide +kernel) rfl rfl rfl ?_
  refine e_sld (show decode (mC 271) 1244 = .ok (.iaload, 1) by decide +kernel) s0 s1 ?_
  exact e_V (as := [aR 188, aI (scr G (v4 + 1))]) (rest := [aI u0]) (show decode (mC 271) 1245 = .ok (.invokevirtual 171, 3) by decide +kernel) (by decide +kernel) (show (decide ((2 : Nat) = mA 261) && decide (261 < q_law)) = true by decide +kernel) rfl (show (1 : Nat) ≤ 8 by decide) (show (2 : Nat) ≤ mL 261 by decide +kernel) rfl (sh_ok hG (by decide +kernel)) m2
theorem b271_1248 (hG : Shp G) {v4 u0 u1 : Int}
    (s0 : -2147483648 ≤ u0 ∧ u0 < 2147483648)
    (s1 : -2147483648 ≤ u1 ∧ u1 < 2147483648)
    (k2 : (u0 = u1) → T (d + 2) 271 1328 [some (aR q_S), some (aR 1), some (aR 188), some (aR 211), some (aI v4), none, none] [] (G, c) Q)
    (z3 : (¬ u0 = u1) → Q (.inl (some (aI 0))) (G, c)) :
    T (d + 2) 271 1248 [some (aR q_S), some (aR 1), some (aR 188), some (aR 211), some (aI v4), none, none] [aI u1, aI u0] (G, c) Q := by
  refine e_eq2 (t := 1328) (show decode (mC 271) 1248 = .ok (.if_icmp .eq 80, 3) by decide +kernel) (by decide) s0 s1 (fun p1 => ?_) (fun p1 => ?_)
  · exact (k2 p1)
  · refine e_P (st' := [aI 0]) (show decode (mC 271) 1251 = .ok (.iconst 0, 1) by decide +kernel) rfl rfl rfl ?_
    exact e_zret (show decode (mC 271) 1252 = .ok (.ireturn, 1) by decide +kernel) rfl (by decide) (z3 p1)
theorem b271_1253 (hG : Shp G) {v4 : Int}
    (s0 : 0 ≤ (v4 + 1))
    (s1 : (v4 + 1) < (G.2.2.2.2.1 : Int))
    (m2 : TM (d + 1) 134 [aR 1, aI (scr G (v4 + 1))] (G, c) (fun r h' => T (d + 2) 271 1263 [some (aR q_S), some (aR 1), some (aR 188), some (aR 211), some (aI v4), none, none] (r.toList ++ []) h' Q)) :
    T (d + 2) 271 1253 [some (aR q_S), some (aR 1), some (aR 188), some (aR 211), some (aI v4), none, none] [] (G, c) Q := by
  refine e_L (L' := [some (aR q_S), some (aR 1), some (aR 188), some (aR 211), some (aI v4), none, none]) (st' := [aR 1]) (show decode (mC 271) 1253 = .ok (.aload_n 1, 1) by decide +kernel) rfl (by show (if 1 = 0 then none else some (_, _)) = _; rw [if_neg (by decide)]) ?_
  refine e_L (L' := [some (aR q_S), some (aR 1), some (aR 188), some (aR 211), some (aI v4), none, none]) (st' := [aR q_S, aR 1]) (show decode (mC 271) 1254 = .ok (.aload_n 0, 1) by decide +kernel) rfl (by show (if q_S = 0 then none else some (_, _)) = _; rw [if_neg (by decide)]) ?_
  refine e_L (L' := [some (aR q_S), some (aR 1), some (aR 188), some (aR 211), some (aI v4), none, none]) (st' := [aI v4, aR q_S, aR 1]) (show decode (mC 271) 1255 = .ok (.iload 4, 2) by decide +kernel) rfl rfl ?_
  refine e_P (st' := [aI 1, aI v4, aR q_S, aR 1]) (show decode (mC 271) 1257 = .ok (.iconst 1, 1) by decide +kernel) rfl rfl rfl ?_
  refine e_P (st' := [aI (v4 + 1), aR q_S, aR 1]) (show decode (mC 271) 1258 = .ok (.iadd, 1) by decide +kernel) rfl rfl rfl ?_
  refine e_sld (show decode (mC 271) 1259 = .ok (.iaload, 1) by decide +kernel) s0 s1 ?_
  exact e_V (as := [aR 1, aI (scr G (v4 + 1))]) (rest := []) (show decode (mC 271) 1260 = .ok (.invokevirtual 172, 3) by decide +kernel) (by decide +kernel) (show (decide ((2 : Nat) = mA 134) && decide (134 < q_law)) = true by decide +kernel) rfl (show (0 : Nat) ≤ 8 by decide) (show (2 : Nat) ≤ mL 134 by decide +kernel) rfl (sh_ok hG (by decide +kernel)) m2
theorem b271_1263 (hG : Shp G) {v4 u0 : Int}
    (s0 : 0 ≤ (v4 + 1))
    (s1 : (v4 + 1) < (G.2.2.2.2.1 : Int))
    (m2 : TM (d + 1) 262 [aR 188, aI (scr G (v4 + 1))] (G, c) (fun r h' => T (d + 2) 271 1273 [some (aR q_S), some (aR 1), some (aR 188), some (aR 211), some (aI v4), none, none] (r.toList ++ [aI u0]) h' Q)) :
    T (d + 2) 271 1263 [some (aR q_S), some (aR 1), some (aR 188), some (aR 211), some (aI v4), none, none] [aI u0] (G, c) Q := by
  refine e_L (L' := [some (aR q_S), some (aR 1), some (aR 188), some (aR 211), some (aI v4), none, none]) (st' := [aR 188, aI u0]) (show decode (mC 271) 1263 = .ok (.aload_n 2, 1) by decide +kernel) rfl (by show (if 188 = 0 then none else some (_, _)) = _; rw [if_neg (by decide)]) ?_
  refine e_L (L' := [some (aR q_S), some (aR 1), some (aR 188), some (aR 211), some (aI v4), none, none]) (st' := [aR q_S, aR 188, aI u0]) (show decode (mC 271) 1264 = .ok (.aload_n 0, 1) by decide +kernel) rfl (by show (if q_S = 0 then none else some (_, _)) = _; rw [if_neg (by decide)]) ?_
  refine e_L (L' := [some (aR q_S), some (aR 1), some (aR 188), some (aR 211), some (aI v4), none, none]) (st' := [aI v4, aR q_S, aR 188, aI u0]) (show decode (mC 271) 1265 = .ok (.iload 4, 2) by decide +kernel) rfl rfl ?_
  refine e_P (st' := [aI 1, aI v4, aR q_S, aR 188, aI u0]) (show decode (mC 271) 1267 = .ok (.iconst 1, 1) by decide +kernel) rfl rfl rfl ?_
  refine e_P (st' := [aI (v4 + 1), aR q_S, aR 188, aI u0]) (show decode (mC 271) 1268 = .ok (.iadd, 1) by decide +kernel) rfl rfl rfl ?_
  refine e_sld (show decode (mC 271) 1269 = .ok (.iaload, 1) by decide +kernel) s0 s1 ?_
  exact e_V (as := [aR 188, aI (scr G (v4 + 1))]) (rest := [aI u0]) (show decode (mC 271) 1270 = .ok (.invokevirtual 175, 3) by decide +kernel) (by decide +kernel) (show (decide ((2 : Nat) = mA 262) && decide (262 < q_law)) = true by decide +kernel) rfl (show (1 : Nat) ≤ 8 by decide) (show (2 : Nat) ≤ mL 262 by decide +kernel) rfl (sh_ok hG (by decide +kernel)) m2
theorem b271_1273 (hG : Shp G) {v4 u0 u1 : Int}
    (s0 : -2147483648 ≤ u0 ∧ u0 < 2147483648)
    (s1 : -2147483648 ≤ u1 ∧ u1 < 2147483648)
    (k2 : (u0 = u1) → T (d + 2) 271 1328 [some (aR q_S), some (aR 1), some (aR 188), some (aR 211), some (aI v4), none, none] [] (G, c) Q)
    (z3 : (¬ u0 = u1) → Q (.inl (some (aI 0))) (G, c)) :
    T (d + 2) 271 1273 [some (aR q_S), some (aR 1), some (aR 188), some (aR 211), some (aI v4), none, none] [aI u1, aI u0] (G, c) Q := by
  refine e_eq2 (t := 1328) (show decode (mC 271) 1273 = .ok (.if_icmp .eq 55, 3) by decide +kernel) (by decide) s0 s1 (fun p1 => ?_) (fun p1 => ?_)
  · exact (k2 p1)
  · refine e_P (st' := [aI 0]) (show decode (mC 271) 1276 = .ok (.iconst 0, 1) by decide +kernel) rfl rfl rfl ?_
    exact e_zret (show decode (mC 271) 1277 = .ok (.ireturn, 1) by decide +kernel) rfl (by decide) (z3 p1)
theorem b271_1278 (hG : Shp G) {v4 : Int}
    (s0 : 0 ≤ (v4 + 1))
    (s1 : (v4 + 1) < (G.2.2.2.2.1 : Int))
    (m2 : TM (d + 1) 135 [aR 1, aI (scr G (v4 + 1))] (G, c) (fun r h' => T (d + 2) 271 1288 [some (aR q_S), some (aR 1), some (aR 188), some (aR 211), some (aI v4), none, none] (r.toList ++ []) h' Q)) :
    T (d + 2) 271 1278 [some (aR q_S), some (aR 1), some (aR 188), some (aR 211), some (aI v4), none, none] [] (G, c) Q := by
  refine e_L (L' := [some (aR q_S), some (aR 1), some (aR 188), some (aR 211), some (aI v4), none, none]) (st' := [aR 1]) (show decode (mC 271) 1278 = .ok (.aload_n 1, 1) by decide +kernel) rfl (by show (if 1 = 0 then none else some (_, _)) = _; rw [if_neg (by decide)]) ?_
  refine e_L (L' := [some (aR q_S), some (aR 1), some (aR 188), some (aR 211), some (aI v4), none, none]) (st' := [aR q_S, aR 1]) (show decode (mC 271) 1279 = .ok (.aload_n 0, 1) by decide +kernel) rfl (by show (if q_S = 0 then none else some (_, _)) = _; rw [if_neg (by decide)]) ?_
  refine e_L (L' := [some (aR q_S), some (aR 1), some (aR 188), some (aR 211), some (aI v4), none, none]) (st' := [aI v4, aR q_S, aR 1]) (show decode (mC 271) 1280 = .ok (.iload 4, 2) by decide +kernel) rfl rfl ?_
  refine e_P (st' := [aI 1, aI v4, aR q_S, aR 1]) (show decode (mC 271) 1282 = .ok (.iconst 1, 1) by decide +kernel) rfl rfl rfl ?_
  refine e_P (st' := [aI (v4 + 1), aR q_S, aR 1]) (show decode (mC 271) 1283 = .ok (.iadd, 1) by decide +kernel) rfl rfl rfl ?_
  refine e_sld (show decode (mC 271) 1284 = .ok (.iaload, 1) by decide +kernel) s0 s1 ?_
  exact e_V (as := [aR 1, aI (scr G (v4 + 1))]) (rest := []) (show decode (mC 271) 1285 = .ok (.invokevirtual 176, 3) by decide +kernel) (by decide +kernel) (show (decide ((2 : Nat) = mA 135) && decide (135 < q_law)) = true by decide +kernel) rfl (show (0 : Nat) ≤ 8 by decide) (show (2 : Nat) ≤ mL 135 by decide +kernel) rfl (sh_ok hG (by decide +kernel)) m2
theorem b271_1288 (hG : Shp G) {v4 u0 : Int}
    (s0 : 0 ≤ (v4 + 1))
    (s1 : (v4 + 1) < (G.2.2.2.2.1 : Int))
    (m2 : TM (d + 1) 263 [aR 188, aI (scr G (v4 + 1))] (G, c) (fun r h' => T (d + 2) 271 1298 [some (aR q_S), some (aR 1), some (aR 188), some (aR 211), some (aI v4), none, none] (r.toList ++ [aI u0]) h' Q)) :
    T (d + 2) 271 1288 [some (aR q_S), some (aR 1), some (aR 188), some (aR 211), some (aI v4), none, none] [aI u0] (G, c) Q := by
  refine e_L (L' := [some (aR q_S), some (aR 1), some (aR 188), some (aR 211), some (aI v4), none, none]) (st' := [aR 188, aI u0]) (show decode (mC 271) 1288 = .ok (.aload_n 2, 1) by decide +kernel) rfl (by show (if 188 = 0 then none else some (_, _)) = _; rw [if_neg (by decide)]) ?_
  refine e_L (L' := [some (aR q_S), some (aR 1), some (aR 188), some (aR 211), some (aI v4), none, none]) (st' := [aR q_S, aR 188, aI u0]) (show decode (mC 271) 1289 = .ok (.aload_n 0, 1) by decide +kernel) rfl (by show (if q_S = 0 then none else some (_, _)) = _; rw [if_neg (by decide)]) ?_
  refine e_L (L' := [some (aR q_S), some (aR 1), some (aR 188), some (aR 211), some (aI v4), none, none]) (st' := [aI v4, aR q_S, aR 188, aI u0]) (show decode (mC 271) 1290 = .ok (.iload 4, 2) by decide +kernel) rfl rfl ?_
  refine e_P (st' := [aI 1, aI v4, aR q_S, aR 188, aI u0]) (show decode (mC 271) 1292 = .ok (.iconst 1, 1) by decide +kernel) rfl rfl rfl ?_
  refine e_P (st' := [aI (v4 + 1), aR q_S, aR 188, aI u0]) (show decode (mC 271) 1293 = .ok (.iadd, 1) by decide +kernel) rfl rfl rfl ?_
  refine e_sld (show decode (mC 271) 1294 = .ok (.iaload, 1) by decide +kernel) s0 s1 ?_
  exact e_V (as := [aR 188, aI (scr G (v4 + 1))]) (rest := [aI u0]) (show decode (mC 271) 1295 = .ok (.invokevirtual 179, 3) by decide +kernel) (by decide +kernel) (show (decide ((2 : Nat) = mA 263) && decide (263 < q_law)) = true by decide +kernel) rfl (show (1 : Nat) ≤ 8 by decide) (show (2 : Nat) ≤ mL 263 by decide +kernel) rfl (sh_ok hG (by decide +kernel)) m2
theorem b271_1298 (hG : Shp G) {v4 u0 u1 : Int}
    (s0 : -2147483648 ≤ u0 ∧ u0 < 2147483648)
    (s1 : -2147483648 ≤ u1 ∧ u1 < 2147483648)
    (k2 : (u0 = u1) → T (d + 2) 271 1328 [some (aR q_S), some (aR 1), some (aR 188), some (aR 211), some (aI v4), none, none] [] (G, c) Q)
    (z3 : (¬ u0 = u1) → Q (.inl (some (aI 0))) (G, c)) :
    T (d + 2) 271 1298 [some (aR q_S), some (aR 1), some (aR 188), some (aR 211), some (aI v4), none, none] [aI u1, aI u0] (G, c) Q := by
  refine e_eq2 (t := 1328) (show decode (mC 271) 1298 = .ok (.if_icmp .eq 30, 3) by decide +kernel) (by decide) s0 s1 (fun p1 => ?_) (fun p1 => ?_)
  · exact (k2 p1)
  · refine e_P (st' := [aI 0]) (show decode (mC 271) 1301 = .ok (.iconst 0, 1) by decide +kernel) rfl rfl rfl ?_
    exact e_zret (show decode (mC 271) 1302 = .ok (.ireturn, 1) by decide +kernel) rfl (by decide) (z3 p1)
theorem b271_1303 (hG : Shp G) {v4 : Int}
    (s0 : 0 ≤ (v4 + 1))
    (s1 : (v4 + 1) < (G.2.2.2.2.1 : Int))
    (m2 : TM (d + 1) 118 [aR 1, aI (scr G (v4 + 1))] (G, c) (fun r h' => T (d + 2) 271 1313 [some (aR q_S), some (aR 1), some (aR 188), some (aR 211), some (aI v4), none, none] (r.toList ++ []) h' Q)) :
    T (d + 2) 271 1303 [some (aR q_S), some (aR 1), some (aR 188), some (aR 211), some (aI v4), none, none] [] (G, c) Q := by
  refine e_L (L' := [some (aR q_S), some (aR 1), some (aR 188), some (aR 211), some (aI v4), none, none]) (st' := [aR 1]) (show decode (mC 271) 1303 = .ok (.aload_n 1, 1) by decide +kernel) rfl (by show (if 1 = 0 then none else some (_, _)) = _; rw [if_neg (by decide)]) ?_
  refine e_L (L' := [some (aR q_S), some (aR 1), some (aR 188), some (aR 211), some (aI v4), none, none]) (st' := [aR q_S, aR 1]) (show decode (mC 271) 1304 = .ok (.aload_n 0, 1) by decide +kernel) rfl (by show (if q_S = 0 then none else some (_, _)) = _; rw [if_neg (by decide)]) ?_
  refine e_L (L' := [some (aR q_S), some (aR 1), some (aR 188), some (aR 211), some (aI v4), none, none]) (st' := [aI v4, aR q_S, aR 1]) (show decode (mC 271) 1305 = .ok (.iload 4, 2) by decide +kernel) rfl rfl ?_
  refine e_P (st' := [aI 1, aI v4, aR q_S, aR 1]) (show decode (mC 271) 1307 = .ok (.iconst 1, 1) by decide +kernel) rfl rfl rfl ?_
  refine e_P (st' := [aI (v4 + 1), aR q_S, aR 1]) (show decode (mC 271) 1308 = .ok (.iadd, 1) by decide +kernel) rfl rfl rfl ?_
  refine e_sld (show decode (mC 271) 1309 = .ok (.iaload, 1) by decide +kernel) s0 s1 ?_
  exact e_V (as := [aR 1, aI (scr G (v4 + 1))]) (rest := []) (show decode (mC 271) 1310 = .ok (.invokevirtual 180, 3) by decide +kernel) (by decide +kernel) (show (decide ((2 : Nat) = mA 118) && decide (118 < q_law)) = true by decide +kernel) rfl (show (0 : Nat) ≤ 8 by decide) (show (2 : Nat) ≤ mL 118 by decide +kernel) rfl (sh_ok hG (by decide +kernel)) m2
theorem b271_1313 (hG : Shp G) {v4 u0 : Int}
    (s0 : 0 ≤ (v4 + 1))
    (s1 : (v4 + 1) < (G.2.2.2.2.1 : Int))
    (m2 : TM (d + 1) 264 [aR 188, aI (scr G (v4 + 1))] (G, c) (fun r h' => T (d + 2) 271 1323 [some (aR q_S), some (aR 1), some (aR 188), some (aR 211), some (aI v4), none, none] (r.toList ++ [aI u0]) h' Q)) :
    T (d + 2) 271 1313 [some (aR q_S), some (aR 1), some (aR 188), some (aR 211), some (aI v4), none, none] [aI u0] (G, c) Q := by
  refine e_L (L' := [some (aR q_S), some (aR 1), some (aR 188), some (aR 211), some (aI v4), none, none]) (st' := [aR 188, aI u0]) (show decode (mC 271) 1313 = .ok (.aload_n 2, 1) by decide +kernel) rfl (by show (if 188 = 0 then none else some (_, _)) = _; rw [if_neg (by decide)]) ?_
  refine e_L (L' := [some (aR q_S), some (aR 1), some (aR 188), some (aR 211), some (aI v4), none, none]) (st' := [aR q_S, aR 188, aI u0]) (show decode (mC 271) 1314 = .ok (.aload_n 0, 1) by decide +kernel) rfl (by show (if q_S = 0 then none else some (_, _)) = _; rw [if_neg (by decide)]) ?_
  refine e_L (L' := [some (aR q_S), some (aR 1), some (aR 188), some (aR 211), some (aI v4), none, none]) (st' := [aI v4, aR q_S, aR 188, aI u0]) (show decode (mC 271) 1315 = .ok (.iload 4, 2) by decide +kernel) rfl rfl ?_
  refine e_P (st' := [aI 1, aI v4, aR q_S, aR 188, aI u0]) (show decode (mC 271) 1317 = .ok (.iconst 1, 1) by decide +kernel) rfl rfl rfl ?_
  refine e_P (st' := [aI (v4 + 1), aR q_S, aR 188, aI u0]) (show decode (mC 271) 1318 = .ok (.iadd, 1) by decide +kernel) rfl rfl rfl ?_
  refine e_sld (show decode (mC 271) 1319 = .ok (.iaload, 1) by decide +kernel) s0 s1 ?_
  exact e_V (as := [aR 188, aI (scr G (v4 + 1))]) (rest := [aI u0]) (show decode (mC 271) 1320 = .ok (.invokevirtual 183, 3) by decide +kernel) (by decide +kernel) (show (decide ((2 : Nat) = mA 264) && decide (264 < q_law)) = true by decide +kernel) rfl (show (1 : Nat) ≤ 8 by decide) (show (2 : Nat) ≤ mL 264 by decide +kernel) rfl (sh_ok hG (by decide +kernel)) m2
theorem b271_1323 (hG : Shp G) {v4 u0 u1 : Int}
    (s0 : -2147483648 ≤ u0 ∧ u0 < 2147483648)
    (s1 : -2147483648 ≤ u1 ∧ u1 < 2147483648)
    (k2 : (u0 = u1) → T (d + 2) 271 1328 [some (aR q_S), some (aR 1), some (aR 188), some (aR 211), some (aI v4), none, none] [] (G, c) Q)
    (z3 : (¬ u0 = u1) → Q (.inl (some (aI 0))) (G, c)) :
    T (d + 2) 271 1323 [some (aR q_S), some (aR 1), some (aR 188), some (aR 211), some (aI v4), none, none] [aI u1, aI u0] (G, c) Q := by
  refine e_eq2 (t := 1328) (show decode (mC 271) 1323 = .ok (.if_icmp .eq 5, 3) by decide +kernel) (by decide) s0 s1 (fun p1 => ?_) (fun p1 => ?_)
  · exact (k2 p1)
  · refine e_P (st' := [aI 0]) (show decode (mC 271) 1326 = .ok (.iconst 0, 1) by decide +kernel) rfl rfl rfl ?_
    exact e_zret (show decode (mC 271) 1327 = .ok (.ireturn, 1) by decide +kernel) rfl (by decide) (z3 p1)
theorem b271_1328 (hG : Shp G) {v4 : Int}
    (k0 : T (d + 2) 271 23 [some (aR q_S), some (aR 1), some (aR 188), some (aR 211), some (aI (v4 + 6)), none, none] [] (G, c) Q) :
    T (d + 2) 271 1328 [some (aR q_S), some (aR 1), some (aR 188), some (aR 211), some (aI v4), none, none] [] (G, c) Q := by
  refine e_L (L' := [some (aR q_S), some (aR 1), some (aR 188), some (aR 211), some (aI (v4 + 6)), none, none]) (st' := []) (show decode (mC 271) 1328 = .ok (.iinc 4 6, 3) by decide +kernel) rfl rfl ?_
  refine e_go (t := 23) (show decode (mC 271) 1331 = .ok (.goto (-1308), 3) by decide +kernel) (by decide) ?_
  exact k0
theorem b271_1334 (hG : Shp G)
    (z0 : Q (.inl (some (aI 1))) (G, c)) :
    T (d + 2) 271 1334 [none, none, none, none, none, none, none] [] (G, c) Q := by
  refine e_P (st' := [aI 1]) (show decode (mC 271) 1334 = .ok (.iconst 1, 1) by decide +kernel) rfl rfl rfl ?_
  exact e_zret (show decode (mC 271) 1335 = .ok (.ireturn, 1) by decide +kernel) rfl (by decide) z0
end SPl4
