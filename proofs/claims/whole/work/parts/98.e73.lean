section SPl1
variable {d : Nat} {G : GG} {c : CC} {Q : OO → HH → Prop}
theorem b271_23 (hG : Shp G) {v4 : Int} (hQ : ∀ o o' h', q_eqo o o' → Q o h' → Q o' h')
    (s0 : -2147483648 ≤ v4 ∧ v4 < 2147483648)
    (s1 : -2147483648 ≤ ((G.2.2.2.2.1 : Int) - 6) ∧ ((G.2.2.2.2.1 : Int) - 6) < 2147483648)
    (k2 : (((G.2.2.2.2.1 : Int) - 6) < v4) → T (d + 2) 271 1334 [none, none, none, none, none, none, none] [] (G, c) Q)
    (s3 : (v4 ≤ ((G.2.2.2.2.1 : Int) - 6)) → 0 ≤ v4)
    (s4 : (v4 ≤ ((G.2.2.2.2.1 : Int) - 6)) → v4 < (G.2.2.2.2.1 : Int))
    (s5 : (v4 ≤ ((G.2.2.2.2.1 : Int) - 6)) → -2147483648 ≤ (q_and (scr G v4) 63) ∧ (q_and (scr G v4) 63) < 2147483648)
    (k6 : (v4 ≤ ((G.2.2.2.2.1 : Int) - 6)) → ((q_and (scr G v4) 63) < 0 ∨ 37 < (q_and (scr G v4) 63)) → T (d + 2) 271 1328 [some (aR q_S), some (aR 1), some (aR 188), some (aR 211), some (aI v4), none, none] [] (G, c) Q)
    (k7 : (v4 ≤ ((G.2.2.2.2.1 : Int) - 6)) → ((q_and (scr G v4) 63) = 0) → T (d + 2) 271 208 [some (aR q_S), some (aR 1), some (aR 188), some (aR 211), some (aI v4), none, none] [] (G, c) Q)
    (k8 : (v4 ≤ ((G.2.2.2.2.1 : Int) - 6)) → ((q_and (scr G v4) 63) = 1) → T (d + 2) 271 281 [some (aR q_S), some (aR 1), some (aR 188), some (aR 211), some (aI v4), none, none] [] (G, c) Q)
    (k9 : (v4 ≤ ((G.2.2.2.2.1 : Int) - 6)) → ((q_and (scr G v4) 63) = 2) → T (d + 2) 271 306 [some (aR q_S), some (aR 1), some (aR 188), some (aR 211), some (aI v4), none, none] [] (G, c) Q)
    (k10 : (v4 ≤ ((G.2.2.2.2.1 : Int) - 6)) → ((q_and (scr G v4) 63) = 3) → T (d + 2) 271 319 [some (aR q_S), some (aR 1), some (aR 188), some (aR 211), some (aI v4), none, none] [] (G, c) Q)
    (k11 : (v4 ≤ ((G.2.2.2.2.1 : Int) - 6)) → ((q_and (scr G v4) 63) = 4) → T (d + 2) 271 332 [some (aR q_S), some (aR 1), some (aR 188), some (aR 211), some (aI v4), none, none] [] (G, c) Q)
    (k12 : (v4 ≤ ((G.2.2.2.2.1 : Int) - 6)) → ((q_and (scr G v4) 63) = 5) → T (d + 2) 271 369 [some (aR q_S), some (aR 1), some (aR 188), some (aR 211), some (aI v4), none, none] [] (G, c) Q)
    (k13 : (v4 ≤ ((G.2.2.2.2.1 : Int) - 6)) → ((q_and (scr G v4) 63) = 6) → T (d + 2) 271 406 [some (aR q_S), some (aR 1), some (aR 188), some (aR 211), some (aI v4), none, none] [] (G, c) Q)
    (k14 : (v4 ≤ ((G.2.2.2.2.1 : Int) - 6)) → ((q_and (scr G v4) 63) = 7) → T (d + 2) 271 474 [some (aR q_S), some (aR 1), some (aR 188), some (aR 211), some (aI v4), none, none] [] (G, c) Q)
    (k15 : (v4 ≤ ((G.2.2.2.2.1 : Int) - 6)) → ((q_and (scr G v4) 63) = 8) → T (d + 2) 271 511 [some (aR q_S), some (aR 1), some (aR 188), some (aR 211), some (aI v4), none, none] [] (G, c) Q)
    (k16 : (v4 ≤ ((G.2.2.2.2.1 : Int) - 6)) → ((q_and (scr G v4) 63) = 9) → T (d + 2) 271 536 [some (aR q_S), some (aR 1), some (aR 188), some (aR 211), some (aI v4), none, none] [] (G, c) Q)
    (k17 : (v4 ≤ ((G.2.2.2.2.1 : Int) - 6)) → ((q_and (scr G v4) 63) = 10) → T (d + 2) 271 573 [some (aR q_S), some (aR 1), some (aR 188), some (aR 211), some (aI v4), none, none] [] (G, c) Q)
    (k18 : (v4 ≤ ((G.2.2.2.2.1 : Int) - 6)) → ((q_and (scr G v4) 63) = 11) → T (d + 2) 271 610 [some (aR q_S), some (aR 1), some (aR 188), some (aR 211), some (aI v4), none, none] [] (G, c) Q)
    (k19 : (v4 ≤ ((G.2.2.2.2.1 : Int) - 6)) → ((q_and (scr G v4) 63) = 12) → T (d + 2) 271 635 [some (aR q_S), some (aR 1), some (aR 188), some (aR 211), some (aI v4), none, none] [] (G, c) Q)
    (k20 : (v4 ≤ ((G.2.2.2.2.1 : Int) - 6)) → ((q_and (scr G v4) 63) = 13) → T (d + 2) 271 660 [some (aR q_S), some (aR 1), some (aR 188), some (aR 211), some (aI v4), none, none] [] (G, c) Q)
    (k21 : (v4 ≤ ((G.2.2.2.2.1 : Int) - 6)) → ((q_and (scr G v4) 63) = 14) → T (d + 2) 271 697 [some (aR q_S), some (aR 1), some (aR 188), some (aR 211), some (aI v4), none, none] [] (G, c) Q)
    (k22 : (v4 ≤ ((G.2.2.2.2.1 : Int) - 6)) → ((q_and (scr G v4) 63) = 15) → T (d + 2) 271 710 [some (aR q_S), some (aR 1), some (aR 188), some (aR 211), some (aI v4), none, none] [] (G, c) Q)
    (k23 : (v4 ≤ ((G.2.2.2.2.1 : Int) - 6)) → ((q_and (scr G v4) 63) = 16) → T (d + 2) 271 735 [some (aR q_S), some (aR 1), some (aR 188), some (aR 211), some (aI v4), none, none] [] (G, c) Q)
    (k24 : (v4 ≤ ((G.2.2.2.2.1 : Int) - 6)) → ((q_and (scr G v4) 63) = 17) → T (d + 2) 271 760 [some (aR q_S), some (aR 1), some (aR 188), some (aR 211), some (aI v4), none, none] [] (G, c) Q)
    (k25 : (v4 ≤ ((G.2.2.2.2.1 : Int) - 6)) → ((q_and (scr G v4) 63) = 18) → T (d + 2) 271 785 [some (aR q_S), some (aR 1), some (aR 188), some (aR 211), some (aI v4), none, none] [] (G, c) Q)
    (k26 : (v4 ≤ ((G.2.2.2.2.1 : Int) - 6)) → ((q_and (scr G v4) 63) = 19) → T (d + 2) 271 841 [some (aR q_S), some (aR 1), some (aR 188), some (aR 211), some (aI v4), none, none] [] (G, c) Q)
    (k27 : (v4 ≤ ((G.2.2.2.2.1 : Int) - 6)) → ((q_and (scr G v4) 63) = 20) → T (d + 2) 271 854 [some (aR q_S), some (aR 1), some (aR 188), some (aR 211), some (aI v4), none, none] [] (G, c) Q)
    (k28 : (v4 ≤ ((G.2.2.2.2.1 : Int) - 6)) → ((q_and (scr G v4) 63) = 21) → T (d + 2) 271 867 [some (aR q_S), some (aR 1), some (aR 188), some (aR 211), some (aI v4), none, none] [] (G, c) Q)
    (k29 : (v4 ≤ ((G.2.2.2.2.1 : Int) - 6)) → ((q_and (scr G v4) 63) = 22) → T (d + 2) 271 904 [some (aR q_S), some (aR 1), some (aR 188), some (aR 211), some (aI v4), none, none] [] (G, c) Q)
    (k30 : (v4 ≤ ((G.2.2.2.2.1 : Int) - 6)) → ((q_and (scr G v4) 63) = 23) → T (d + 2) 271 929 [some (aR q_S), some (aR 1), some (aR 188), some (aR 211), some (aI v4), none, none] [] (G, c) Q)
    (k31 : (v4 ≤ ((G.2.2.2.2.1 : Int) - 6)) → ((q_and (scr G v4) 63) = 24) → T (d + 2) 271 966 [some (aR q_S), some (aR 1), some (aR 188), some (aR 211), some (aI v4), none, none] [] (G, c) Q)
    (k32 : (v4 ≤ ((G.2.2.2.2.1 : Int) - 6)) → ((q_and (scr G v4) 63) = 25) → T (d + 2) 271 1003 [some (aR q_S), some (aR 1), some (aR 188), some (aR 211), some (aI v4), none, none] [] (G, c) Q)
    (k33 : (v4 ≤ ((G.2.2.2.2.1 : Int) - 6)) → ((q_and (scr G v4) 63) = 26) → T (d + 2) 271 1016 [some (aR q_S), some (aR 1), some (aR 188), some (aR 211), some (aI v4), none, none] [] (G, c) Q)
    (k34 : (v4 ≤ ((G.2.2.2.2.1 : Int) - 6)) → ((q_and (scr G v4) 63) = 27) → T (d + 2) 271 1041 [some (aR q_S), some (aR 1), some (aR 188), some (aR 211), some (aI v4), none, none] [] (G, c) Q)
    (k35 : (v4 ≤ ((G.2.2.2.2.1 : Int) - 6)) → ((q_and (scr G v4) 63) = 28) → T (d + 2) 271 1066 [some (aR q_S), some (aR 1), some (aR 188), some (aR 211), some (aI v4), none, none] [] (G, c) Q)
    (k36 : (v4 ≤ ((G.2.2.2.2.1 : Int) - 6)) → ((q_and (scr G v4) 63) = 29) → T (d + 2) 271 1103 [some (aR q_S), some (aR 1), some (aR 188), some (aR 211), some (aI v4), none, none] [] (G, c) Q)
    (k37 : (v4 ≤ ((G.2.2.2.2.1 : Int) - 6)) → ((q_and (scr G v4) 63) = 30) → T (d + 2) 271 1140 [some (aR q_S), some (aR 1), some (aR 188), some (aR 211), some (aI v4), none, none] [] (G, c) Q)
    (k38 : (v4 ≤ ((G.2.2.2.2.1 : Int) - 6)) → ((q_and (scr G v4) 63) = 31) → T (d + 2) 271 1165 [some (aR q_S), some (aR 1), some (aR 188), some (aR 211), some (aI v4), none, none] [] (G, c) Q)
    (k39 : (v4 ≤ ((G.2.2.2.2.1 : Int) - 6)) → ((q_and (scr G v4) 63) = 32) → T (d + 2) 271 1190 [some (aR q_S), some (aR 1), some (aR 188), some (aR 211), some (aI v4), none, none] [] (G, c) Q)
    (k40 : (v4 ≤ ((G.2.2.2.2.1 : Int) - 6)) → ((q_and (scr G v4) 63) = 33) → T (d + 2) 271 1215 [some (aR q_S), some (aR 1), some (aR 188), some (aR 211), some (aI v4), none, none] [] (G, c) Q)
    (k41 : (v4 ≤ ((G.2.2.2.2.1 : Int) - 6)) → ((q_and (scr G v4) 63) = 34) → T (d + 2) 271 1228 [some (aR q_S), some (aR 1), some (aR 188), some (aR 211), some (aI v4), none, none] [] (G, c) Q)
    (k42 : (v4 ≤ ((G.2.2.2.2.1 : Int) - 6)) → ((q_and (scr G v4) 63) = 35) → T (d + 2) 271 1253 [some (aR q_S), some (aR 1), some (aR 188), some (aR 211), some (aI v4), none, none] [] (G, c) Q)
    (k43 : (v4 ≤ ((G.2.2.2.2.1 : Int) - 6)) → ((q_and (scr G v4) 63) = 36) → T (d + 2) 271 1278 [some (aR q_S), some (aR 1), some (aR 188), some (aR 211), some (aI v4), none, none] [] (G, c) Q)
    (k44 : (v4 ≤ ((G.2.2.2.2.1 : Int) - 6)) → ((q_and (scr G v4) 63) = 37) → T (d + 2) 271 1303 [some (aR q_S), some (aR 1), some (aR 188), some (aR 211), some (aI v4), none, none] [] (G, c) Q) :
    T (d + 2) 271 23 [some (aR q_S), some (aR 1), some (aR 188), some (aR 211), some (aI v4), none, none] [] (G, c) Q := by
  refine e_L (L' := [some (aR q_S), some (aR 1), some (aR 188), some (aR 211), some (aI v4), none, none]) (st' := [aI v4]) (show decode (mC 271) 23 = .ok (.iload 4, 2) by decide +kernel) rfl rfl ?_
  refine e_L (L' := [some (aR q_S), some (aR 1), some (aR 188), some (aR 211), some (aI v4), none, none]) (st' := [aR q_S, aI v4]) (show decode (mC 271) 25 = .ok (.aload_n 0, 1) by decide +kernel) rfl (by show (if q_S = 0 then none else some (_, _)) = _; rw [if_neg (by decide)]) ?_
  refine e_sln (show decode (mC 271) 26 = .ok (.arraylength, 1) by decide +kernel) ?_
  refine e_P (st' := [aI 6, aI (G.2.2.2.2.1 : Int), aI v4]) (show decode (mC 271) 27 = .ok (.bipush 6, 2) by decide +kernel) rfl rfl rfl ?_
  refine e_P (st' := [aI ((G.2.2.2.2.1 : Int) - 6), aI v4]) (show decode (mC 271) 29 = .ok (.isub, 1) by decide +kernel) rfl rfl rfl ?_
  refine e_gt2 (t := 1334) (show decode (mC 271) 30 = .ok (.if_icmp .gt 1304, 3) by decide +kernel) (by decide) s0 s1 (fun p1 => ?_) (fun p1 => ?_)
  · exact T_le hQ (leN (leN (leN (leN (leN (leS (leS leE))))))) (k2 p1)
  · refine e_L (L' := [some (aR q_S), some (aR 1), some (aR 188), some (aR 211), some (aI v4), none, none]) (st' := [aR q_S]) (show decode (mC 271) 33 = .ok (.aload_n 0, 1) by decide +kernel) rfl (by show (if q_S = 0 then none else some (_, _)) = _; rw [if_neg (by decide)]) ?_
    refine e_L (L' := [some (aR q_S), some (aR 1), some (aR 188), some (aR 211), some (aI v4), none, none]) (st' := [aI v4, aR q_S]) (show decode (mC 271) 34 = .ok (.iload 4, 2) by decide +kernel) rfl rfl ?_
    refine e_sld (show decode (mC 271) 36 = .ok (.iaload, 1) by decide +kernel) (s3 p1) (s4 p1) ?_
    refine e_P (st' := [aI 63, aI (scr G v4)]) (show decode (mC 271) 37 = .ok (.bipush 63, 2) by decide +kernel) rfl rfl rfl ?_
    refine e_P (st' := [aI (q_and (scr G v4) 63)]) (show decode (mC 271) 39 = .ok (.iand, 1) by decide +kernel) rfl rfl rfl ?_
    rcases (show ((q_and (scr G v4) 63) < 0 ∨ 37 < (q_and (scr G v4) 63)) ∨ (q_and (scr G v4) 63) = 0 ∨ (q_and (scr G v4) 63) = 1 ∨ (q_and (scr G v4) 63) = 2 ∨ (q_and (scr G v4) 63) = 3 ∨ (q_and (scr G v4) 63) = 4 ∨ (q_and (scr G v4) 63) = 5 ∨ (q_and (scr G v4) 63) = 6 ∨ (q_and (scr G v4) 63) = 7 ∨ (q_and (scr G v4) 63) = 8 ∨ (q_and (scr G v4) 63) = 9 ∨ (q_and (scr G v4) 63) = 10 ∨ (q_and (scr G v4) 63) = 11 ∨ (q_and (scr G v4) 63) = 12 ∨ (q_and (scr G v4) 63) = 13 ∨ (q_and (scr G v4) 63) = 14 ∨ (q_and (scr G v4) 63) = 15 ∨ (q_and (scr G v4) 63) = 16 ∨ (q_and (scr G v4) 63) = 17 ∨ (q_and (scr G v4) 63) = 18 ∨ (q_and (scr G v4) 63) = 19 ∨ (q_and (scr G v4) 63) = 20 ∨ (q_and (scr G v4) 63) = 21 ∨ (q_and (scr G v4) 63) = 22 ∨ (q_and (scr G v4) 63) = 23 ∨ (q_and (scr G v4) 63) = 24 ∨ (q_and (scr G v4) 63) = 25 ∨ (q_and (scr G v4) 63) = 26 ∨ (q_and (scr G v4) 63) = 27 ∨ (q_and (scr G v4) 63) = 28 ∨ (q_and (scr G v4) 63) = 29 ∨ (q_and (scr G v4) 63) = 30 ∨ (q_and (scr G v4) 63) = 31 ∨ (q_and (scr G v4) 63) = 32 ∨ (q_and (scr G v4) 63) = 33 ∨ (q_and (scr G v4) 63) = 34 ∨ (q_and (scr G v4) 63) = 35 ∨ (q_and (scr G v4) 63) = 36 ∨ (q_and (scr G v4) 63) = 37 by omega) with p2 | p2 | p2 | p2 | p2 | p2 | p2 | p2 | p2 | p2 | p2 | p2 | p2 | p2 | p2 | p2 | p2 | p2 | p2 | p2 | p2 | p2 | p2 | p2 | p2 | p2 | p2 | p2 | p2 | p2 | p2 | p2 | p2 | p2 | p2 | p2 | p2 | p2 | p2
    · refine e_swd (t := 1328) (show decode (mC 271) 40 = .ok (.tableswitch 1288 0 37 #[168, 241, 266, 279, 292, 329, 366, 434, 471, 496, 533, 570, 595, 620, 657, 670, 695, 720, 745, 801, 814, 827, 864, 889, 926, 963, 976, 1001, 1026, 1063, 1100, 1125, 1150, 1175, 1188, 1213, 1238, 1263], 168) by decide +kernel) (s5 p1) p2 (by decide) ?_
      exact (k6 p1 p2)
    · refine e_swj (off := 168) (t := 208) 0 (show decode (mC 271) 40 = .ok (.tableswitch 1288 0 37 #[168, 241, 266, 279, 292, 329, 366, 434, 471, 496, 533, 570, 595, 620, 657, 670, 695, 720, 745, 801, 814, 827, 864, 889, 926, 963, 976, 1001, 1026, 1063, 1100, 1125, 1150, 1175, 1188, 1213, 1238, 1263], 168) by decide +kernel) p2 (by decide +kernel) ?_
      exact (k7 p1 p2)
    · refine e_swj (off := 241) (t := 281) 1 (show decode (mC 271) 40 = .ok (.tableswitch 1288 0 37 #[168, 241, 266, 279, 292, 329, 366, 434, 471, 496, 533, 570, 595, 620, 657, 670, 695, 720, 745, 801, 814, 827, 864, 889, 926, 963, 976, 1001, 1026, 1063, 1100, 1125, 1150, 1175, 1188, 1213, 1238, 1263], 168) by decide +kernel) p2 (by decide +kernel) ?_
      exact (k8 p1 p2)
    · refine e_swj (off := 266) (t := 306) 2 (show decode (mC 271) 40 = .ok (.tableswitch 1288 0 37 #[168, 241, 266, 279, 292, 329, 366, 434, 471, 496, 533, 570, 595, 620, 657, 670, 695, 720, 745, 801, 814, 827, 864, 889, 926, 963, 976, 1001, 1026, 1063, 1100, 1125, 1150, 1175, 1188, 1213, 1238, 1263], 168) by decide +kernel) p2 (by decide +kernel) ?_
      exact (k9 p1 p2)
    · refine e_swj (off := 279) (t := 319) 3 (show decode (mC 271) 40 = .ok (.tableswitch 1288 0 37 #[168, 241, 266, 279, 292, 329, 366, 434, 471, 496, 533, 570, 595, 620, 657, 670, 695, 720, 745, 801, 814, 827, 864, 889, 926, 963, 976, 1001, 1026, 1063, 1100, 1125, 1150, 1175, 1188, 1213, 1238, 1263], 168) by decide +kernel) p2 (by decide +kernel) ?_
      exact (k10 p1 p2)
    · refine e_swj (off := 292) (t := 332) 4 (show decode (mC 271) 40 = .ok (.tableswitch 1288 0 37 #[168, 241, 266, 279, 292, 329, 366, 434, 471, 496, 533, 570, 595, 620, 657, 670, 695, 720, 745, 801, 814, 827, 864, 889, 926, 963, 976, 1001, 1026, 1063, 1100, 1125, 1150, 1175, 1188, 1213, 1238, 1263], 168) by decide +kernel) p2 (by decide +kernel) ?_
      exact (k11 p1 p2)
    · refine e_swj (off := 329) (t := 369) 5 (show decode (mC 271) 40 = .ok (.tableswitch 1288 0 37 #[168, 241, 266, 279, 292, 329, 366, 434, 471, 496, 533, 570, 595, 620, 657, 670, 695, 720, 745, 801, 814, 827, 864, 889, 926, 963, 976, 1001, 1026, 1063, 1100, 1125, 1150, 1175, 1188, 1213, 1238, 1263], 168) by decide +kernel) p2 (by decide +kernel) ?_
      exact (k12 p1 p2)
    · refine e_swj (off := 366) (t := 406) 6 (show decode (mC 271) 40 = .ok (.tableswitch 1288 0 37 #[168, 241, 266, 279, 292, 329, 366, 434, 471, 496, 533, 570, 595, 620, 657, 670, 695, 720, 745, 801, 814, 827, 864, 889, 926, 963, 976, 1001, 1026, 1063, 1100, 1125, 1150, 1175, 1188, 1213, 1238, 1263], 168) by decide +kernel) p2 (by decide +kernel) ?_
      exact (k13 p1 p2)
    · refine e_swj (off := 434) (t := 474) 7 (show decode (mC 271) 40 = .ok (.tableswitch 1288 0 37 #[168, 241, 266, 279, 292, 329, 366, 434, 471, 496, 533, 570, 595, 620, 657, 670, 695, 720, 745, 801, 814, 827, 864, 889, 926, 963, 976, 1001, 1026, 1063, 1100, 1125, 1150, 1175, 1188, 1213, 1238, 1263], 168) by decide +kernel) p2 (by decide +kernel) ?_
      exact (k14 p1 p2)
    · refine e_swj (off := 471) (t := 511) 8 (show decode (mC 271) 40 = .ok (.tableswitch 1288 0 37 #[168, 241, 266, 279, 292, 329, 366, 434, 471, 496, 533, 570, 595, 620, 657, 670, 695, 720, 745, 801, 814, 827, 864, 889, 926, 963, 976, 1001, 1026, 1063, 1100, 1125, 1150, 1175, 1188, 1213, 1238, 1263], 168) by decide +kernel) p2 (by decide +kernel) ?_
      exact (k15 p1 p2)
    · refine e_swj (off := 496) (t := 536) 9 (show decode (mC 271) 40 = .ok (.tableswitch 1288 0 37 #[168, 241, 266, 279, 292, 329, 366, 434, 471, 496, 533, 570, 595, 620, 657, 670, 695, 720, 745, 801, 814, 827, 864, 889, 926, 963, 976, 1001, 1026, 1063, 1100, 1125, 1150, 1175, 1188, 1213, 1238, 1263], 168) by decide +kernel) p2 (by decide +kernel) ?_
      exact (k16 p1 p2)
    · refine e_swj (off := 533) (t := 573) 10 (show decode (mC 271) 40 = .ok (.tableswitch 1288 0 37 #[168, 241, 266, 279, 292, 329, 366, 434, 471, 496, 533, 570, 595, 620, 657, 670, 695, 720, 745, 801, 814, 827, 864, 889, 926, 963, 976, 1001, 1026, 1063, 1100, 1125, 1150, 1175, 1188, 1213, 1238, 1263], 168) by decide +kernel) p2 (by decide +kernel) ?_
      exact (k17 p1 p2)
    · refine e_swj (off := 570) (t := 610) 11 (show decode (mC 271) 40 = .ok (.tableswitch 1288 0 37 #[168, 241, 266, 279, 292, 329, 366, 434, 471, 496, 533, 570, 595, 620, 657, 670, 695, 720, 745, 801, 814, 827, 864, 889, 926, 963, 976, 1001, 1026, 1063, 1100, 1125, 1150, 1175, 1188, 1213, 1238, 1263], 168) by decide +kernel) p2 (by decide +kernel) ?_
      exact (k18 p1 p2)
    · refine e_swj (off := 595) (t := 635) 12 (show decode (mC 271) 40 = .ok (.tableswitch 1288 0 37 #[168, 241, 266, 279, 292, 329, 366, 434, 471, 496, 533, 570, 595, 620, 657, 670, 695, 720, 745, 801, 814, 827, 864, 889, 926, 963, 976, 1001, 1026, 1063, 1100, 1125, 1150, 1175, 1188, 1213, 1238, 1263], 168) by decide +kernel) p2 (by decide +kernel) ?_
      exact (k19 p1 p2)
    · refine e_swj (off := 620) (t := 660) 13 (show decode (mC 271) 40 = .ok (.tableswitch 1288 0 37 #[168, 241, 266, 279, 292, 329, 366, 434, 471, 496, 533, 570, 595, 620, 657, 670, 695, 720, 745, 801, 814, 827, 864, 889, 926, 963, 976, 1001, 1026, 1063, 1100, 1125, 1150, 1175, 1188, 1213, 1238, 1263], 168) by decide +kernel) p2 (by decide +kernel) ?_
      exact (k20 p1 p2)
    · refine e_swj (off := 657) (t := 697) 14 (show decode (mC 271) 40 = .ok (.tableswitch 1288 0 37 #[168, 241, 266, 279, 292, 329, 366, 434, 471, 496, 533, 570, 595, 620, 657, 670, 695, 720, 745, 801, 814, 827, 864, 889, 926, 963, 976, 1001, 1026, 1063, 1100, 1125, 1150, 1175, 1188, 1213, 1238, 1263], 168) by decide +kernel) p2 (by decide +kernel) ?_
      exact (k21 p1 p2)
    · refine e_swj (off := 670) (t := 710) 15 (show decode (mC 271) 40 = .ok (.tableswitch 1288 0 37 #[168, 241, 266, 279, 292, 329, 366, 434, 471, 496, 533, 570, 595, 620, 657, 670, 695, 720, 745, 801, 814, 827, 864, 889, 926, 963, 976, 1001, 1026, 1063, 1100, 1125, 1150, 1175, 1188, 1213, 1238, 1263], 168) by decide +kernel) p2 (by decide +kernel) ?_
      exact (k22 p1 p2)
    · refine e_swj (off := 695) (t := 735) 16 (show decode (mC 271) 40 = .ok (.tableswitch 1288 0 37 #[168, 241, 266, 279, 292, 329, 366, 434, 471, 496, 533, 570, 595, 620, 657, 670, 695, 720, 745, 801, 814, 827, 864, 889, 926, 963, 976, 1001, 1026, 1063, 1100, 1125, 1150, 1175, 1188, 1213, 1238, 1263], 168) by decide +kernel) p2 (by decide +kernel) ?_
      exact (k23 p1 p2)
    · refine e_swj (off := 720) (t := 760) 17 (show decode (mC 271) 40 = .ok (.tableswitch 1288 0 37 #[168, 241, 266, 279, 292, 329, 366, 434, 471, 496, 533, 570, 595, 620, 657, 670, 695, 720, 745, 801, 814, 827, 864, 889, 926, 963, 976, 1001, 1026, 1063, 1100, 1125, 1150, 1175, 1188, 1213, 1238, 1263], 168) by decide +kernel) p2 (by decide +kernel) ?_
      exact (k24 p1 p2)
    · refine e_swj (off := 745) (t := 785) 18 (show decode (mC 271) 40 = .ok (.tableswitch 1288 0 37 #[168, 241, 266, 279, 292, 329, 366, 434, 471, 496, 533, 570, 595, 620, 657, 670, 695, 720, 745, 801, 814, 827, 864, 889, 926, 963, 976, 1001, 1026, 1063, 1100, 1125, 1150, 1175, 1188, 1213, 1238, 1263], 168) by decide +kernel) p2 (by decide +kernel) ?_
      exact (k25 p1 p2)
    · refine e_swj (off := 801) (t := 841) 19 (show decode (mC 271) 40 = .ok (.tableswitch 1288 0 37 #[168, 241, 266, 279, 292, 329, 366, 434, 471, 496, 533, 570, 595, 620, 657, 670, 695, 720, 745, 801, 814, 827, 864, 889, 926, 963, 976, 1001, 1026, 1063, 1100, 1125, 1150, 1175, 1188, 1213, 1238, 1263], 168) by decide +kernel) p2 (by decide +kernel) ?_
      exact (k26 p1 p2)
    · refine e_swj (off := 814) (t := 854) 20 (show decode (mC 271) 40 = .ok (.tableswitch 1288 0 37 #[168, 241, 266, 279, 292, 329, 366, 434, 471, 496, 533, 570, 595, 620, 657, 670, 695, 720, 745, 801, 814, 827, 864, 889, 926, 963, 976, 1001, 1026, 1063, 1100, 1125, 1150, 1175, 1188, 1213, 1238, 1263], 168) by decide +kernel) p2 (by decide +kernel) ?_
      exact (k27 p1 p2)
    · refine e_swj (off := 827) (t := 867) 21 (show decode (mC 271) 40 = .ok (.tableswitch 1288 0 37 #[168, 241, 266, 279, 292, 329, 366, 434, 471, 496, 533, 570, 595, 620, 657, 670, 695, 720, 745, 801, 814, 827, 864, 889, 926, 963, 976, 1001, 1026, 1063, 1100, 1125, 1150, 1175, 1188, 1213, 1238, 1263], 168) by decide +kernel) p2 (by decide +kernel) ?_
      exact (k28 p1 p2)
    · refine e_swj (off := 864) (t := 904) 22 (show decode (mC 271) 40 = .ok (.tableswitch 1288 0 37 #[168, 241, 266, 279, 292, 329, 366, 434, 471, 496, 533, 570, 595, 620, 657, 670, 695, 720, 745, 801, 814, 827, 864, 889, 926, 963, 976, 1001, 1026, 1063, 1100, 1125, 1150, 1175, 1188, 1213, 1238, 1263], 168) by decide +kernel) p2 (by decide +kernel) ?_
      exact (k29 p1 p2)
    · refine e_swj (off := 889) (t := 929) 23 (show decode (mC 271) 40 = .ok (.tableswitch 1288 0 37 #[168, 241, 266, 279, 292, 329, 366, 434, 471, 496, 533, 570, 595, 620, 657, 670, 695, 720, 745, 801, 814, 827, 864, 889, 926, 963, 976, 1001, 1026, 1063, 1100, 1125, 1150, 1175, 1188, 1213, 1238, 1263], 168) by decide +kernel) p2 (by decide +kernel) ?_
      exact (k30 p1 p2)
    · refine e_swj (off := 926) (t := 966) 24 (show decode (mC 271) 40 = .ok (.tableswitch 1288 0 37 #[168, 241, 266, 279, 292, 329, 366, 434, 471, 496, 533, 570, 595, 620, 657, 670, 695, 720, 745, 801, 814, 827, 864, 889, 926, 963, 976, 1001, 1026, 1063, 1100, 1125, 1150, 1175, 1188, 1213, 1238, 1263], 168) by decide +kernel) p2 (by decide +kernel) ?_
      exact (k31 p1 p2)
    · refine e_swj (off := 963) (t := 1003) 25 (show decode (mC 271) 40 = .ok (.tableswitch 1288 0 37 #[168, 241, 266, 279, 292, 329, 366, 434, 471, 496, 533, 570, 595, 620, 657, 670, 695, 720, 745, 801, 814, 827, 864, 889, 926, 963, 976, 1001, 1026, 1063, 1100, 1125, 1150, 1175, 1188, 1213, 1238, 1263], 168) by decide +kernel) p2 (by decide +kernel) ?_
      exact (k32 p1 p2)
    · refine e_swj (off := 976) (t := 1016) 26 (show decode (mC 271) 40 = .ok (.tableswitch 1288 0 37 #[168, 241, 266, 279, 292, 329, 366, 434, 471, 496, 533, 570, 595, 620, 657, 670, 695, 720, 745, 801, 814, 827, 864, 889, 926, 963, 976, 1001, 1026, 1063, 1100, 1125, 1150, 1175, 1188, 1213, 1238, 1263], 168) by decide +kernel) p2 (by decide +kernel) ?_
      exact (k33 p1 p2)
    · refine e_swj (off := 1001) (t := 1041) 27 (show decode (mC 271) 40 = .ok (.tableswitch 1288 0 37 #[168, 241, 266, 279, 292, 329, 366, 434, 471, 496, 533, 570, 595, 620, 657, 670, 695, 720, 745, 801, 814, 827, 864, 889, 926, 963, 976, 1001, 1026, 1063, 1100, 1125, 1150, 1175, 1188, 1213, 1238, 1263], 168) by decide +kernel) p2 (by decide +kernel) ?_
      exact (k34 p1 p2)
    · refine e_swj (off := 1026) (t := 1066) 28 (show decode (mC 271) 40 = .ok (.tableswitch 1288 0 37 #[168, 241, 266, 279, 292, 329, 366, 434, 471, 496, 533, 570, 595, 620, 657, 670, 695, 720, 745, 801, 814, 827, 864, 889, 926, 963, 976, 1001, 1026, 1063, 1100, 1125, 1150, 1175, 1188, 1213, 1238, 1263], 168) by decide +kernel) p2 (by decide +kernel) ?_
      exact (k35 p1 p2)
    · refine e_swj (off := 1063) (t := 1103) 29 (show decode (mC 271) 40 = .ok (.tableswitch 1288 0 37 #[168, 241, 266, 279, 292, 329, 366, 434, 471, 496, 533, 570, 595, 620, 657, 670, 695, 720, 745, 801, 814, 827, 864, 889, 926, 963, 976, 1001, 1026, 1063, 1100, 1125, 1150, 1175, 1188, 1213, 1238, 1263], 168) by decide +kernel) p2 (by decide +kernel) ?_
      exact (k36 p1 p2)
    · refine e_swj (off := 1100) (t := 1140) 30 (show decode (mC 271) 40 = .ok (.tableswitch 1288 0 37 #[168, 241, 266, 279, 292, 329, 366, 434, 471, 496, 533, 570, 595, 620, 657, 670, 695, 720, 745, 801, 814, 827, 864, 889, 926, 963, 976, 1001, 1026, 1063, 1100, 1125, 1150, 1175, 1188, 1213, 1238, 1263], 168) by decide +kernel) p2 (by decide +kernel) ?_
      exact (k37 p1 p2)
    · refine e_swj (off := 1125) (t := 1165) 31 (show decode (mC 271) 40 = .ok (.tableswitch 1288 0 37 #[168, 241, 266, 279, 292, 329, 366, 434, 471, 496, 533, 570, 595, 620, 657, 670, 695, 720, 745, 801, 814, 827, 864, 889, 926, 963, 976, 1001, 1026, 1063, 1100, 1125, 1150, 1175, 1188, 1213, 1238, 1263], 168) by decide +kernel) p2 (by decide +kernel) ?_
      exact (k38 p1 p2)
    · refine e_swj (off := 1150) (t := 1190) 32 (show decode (mC 271) 40 = .ok (.tableswitch 1288 0 37 #[168, 241, 266, 279, 292, 329, 366, 434, 471, 496, 533, 570, 595, 620, 657, 670, 695, 720, 745, 801, 814, 827, 864, 889, 926, 963, 976, 1001, 1026, 1063, 1100, 1125, 1150, 1175, 1188, 1213, 1238, 1263], 168) by decide +kernel) p2 (by decide +kernel) ?_
      exact (k39 p1 p2)
    · refine e_swj (off := 1175) (t := 1215) 33 (show decode (mC 271) 40 = .ok (.tableswitch 1288 0 37 #[168, 241, 266, 279, 292, 329, 366, 434, 471, 496, 533, 570, 595, 620, 657, 670, 695, 720, 745, 801, 814, 827, 864, 889, 926, 963, 976, 1001, 1026, 1063, 1100, 1125, 1150, 1175, 1188, 1213, 1238, 1263], 168) by decide +kernel) p2 (by decide +kernel) ?_
      exact (k40 p1 p2)
    · refine e_swj (off := 1188) (t := 1228) 34 (show decode (mC 271) 40 = .ok (.tableswitch 1288 0 37 #[168, 241, 266, 279, 292, 329, 366, 434, 471, 496, 533, 570, 595, 620, 657, 670, 695, 720, 745, 801, 814, 827, 864, 889, 926, 963, 976, 1001, 1026, 1063, 1100, 1125, 1150, 1175, 1188, 1213, 1238, 1263], 168) by decide +kernel) p2 (by decide +kernel) ?_
      exact (k41 p1 p2)
    · refine e_swj (off := 1213) (t := 1253) 35 (show decode (mC 271) 40 = .ok (.tableswitch 1288 0 37 #[168, 241, 266, 279, 292, 329, 366, 434, 471, 496, 533, 570, 595, 620, 657, 670, 695, 720, 745, 801, 814, 827, 864, 889, 926, 963, 976, 1001, 1026, 1063, 1100, 1125, 1150, 1175, 1188, 1213, 1238, 1263], 168) by decide +kernel) p2 (by decide +kernel) ?_
      exact (k42 p1 p2)
    · refine e_swj (off := 1238) (t := 1278) 36 (show decode (mC 271) 40 = .ok (.tableswitch 1288 0 37 #[168, 241, 266, 279, 292, 329, 366, 434, 471, 496, 533, 570, 595, 620, 657, 670, 695, 720, 745, 801, 814, 827, 864, 889, 926, 963, 976, 1001, 1026, 1063, 1100, 1125, 1150, 1175, 1188, 1213, 1238, 1263], 168) by decide +kernel) p2 (by decide +kernel) ?_
      exact (k43 p1 p2)
    · refine e_swj (off := 1263) (t := 1303) 37 (show decode (mC 271) 40 = .ok (.tableswitch 1288 0 37 #[168, 241, 266, 279, 292, 329, 366, 434, 471, 496, 533, 570, 595, 620, 657, 670, 695, 720, 745, 801, 814, 827, 864, 889, 926, 963, 976, 1001, 1026, 1063, 1100, 1125, 1150, 1175, 1188, 1213, 1238, 1263], 168) by decide +kernel) p2 (by decide +kernel) ?_
      exact (k44 p1 p2)
theorem b271_208 (hG : Shp G) {v4 : Int}
    (s0 : 0 ≤ (v4 + 1))
    (s1 : (v4 + 1) < (G.2.2.2.2.1 : Int))
    (s2 : 0 ≤ (v4 + 2))
    (s3 : (v4 + 2) < (G.2.2.2.2.1 : Int))
    (s4 : 0 ≤ (v4 + 3))
    (s5 : (v4 + 3) < (G.2.2.2.2.1 : Int))
    (s6 : 0 ≤ (v4 + 4))
    (s7 : (v4 + 4) < (G.2.2.2.2.1 : Int))
    (s8 : 0 ≤ (v4 + 5))
    (s9 : (v4 + 5) < (G.2.2.2.2.1 : Int))
    (m10 : TM (d + 1) 110 [aR 1, aI (scr G (v4 + 1)), aI (scr G (v4 + 2)), aI (scr G (v4 + 3)), aI (scr G (v4 + 4)), aI (scr G (v4 + 5))] (G, c) (fun r h' => T (d + 2) 271 242 [some (aR q_S), some (aR 1), some (aR 188), some (aR 211), some (aI v4), none, none] (r.toList ++ []) h' Q)) :
    T (d + 2) 271 208 [some (aR q_S), some (aR 1), some (aR 188), some (aR 211), some (aI v4), none, none] [] (G, c) Q := by
  refine e_L (L' := [some (aR q_S), some (aR 1), some (aR 188), some (aR 211), some (aI v4), none, none]) (st' := [aR 1]) (show decode (mC 271) 208 = .ok (.aload_n 1, 1) by decide +kernel) rfl (by show (if 1 = 0 then none else some (_, _)) = _; rw [if_neg (by decide)]) ?_
  refine e_L (L' := [some (aR q_S), some (aR 1), some (aR 188), some (aR 211), some (aI v4), none, none]) (st' := [aR q_S, aR 1]) (show decode (mC 271) 209 = .ok (.aload_n 0, 1) by decide +kernel) rfl (by show (if q_S = 0 then none else some (_, _)) = _; rw [if_neg (by decide)]) ?_
  refine e_L (L' := [some (aR q_S), some (aR 1), some (aR 188), some (aR 211), some (aI v4), none, none]) (st' := [aI v4, aR q_S, aR 1]) (show decode (mC 271) 210 = .ok (.iload 4, 2) by decide +kernel) rfl rfl ?_
  refine e_P (st' := [aI 1, aI v4, aR q_S, aR 1]) (show decode (mC 271) 212 = .ok (.iconst 1, 1) by decide +kernel) rfl rfl rfl ?_
  refine e_P (st' := [aI (v4 + 1), aR q_S, aR 1]) (show decode (mC 271) 213 = .ok (.iadd, 1) by decide +kernel) rfl rfl rfl ?_
  refine e_sld (show decode (mC 271) 214 = .ok (.iaload, 1) by decide +kernel) s0 s1 ?_
  refine e_L (L' := [some (aR q_S), some (aR 1), some (aR 188), some (aR 211), some (aI v4), none, none]) (st' := [aR q_S, aI (scr G (v4 + 1)), aR 1]) (show decode (mC 271) 215 = .ok (.aload_n 0, 1) by decide +kernel) rfl (by show (if q_S = 0 then none else some (_, _)) = _; rw [if_neg (by decide)]) ?_
  refine e_L (L' := [some (aR q_S), some (aR 1), some (aR 188), some (aR 211), some (aI v4), none, none]) (st' := [aI v4, aR q_S, aI (scr G (v4 + 1)), aR 1]) (show decode (mC 271) 216 = .ok (.iload 4, 2) by decide +kernel) rfl rfl ?_
  refine e_P (st' := [aI 2, aI v4, aR q_S, aI (scr G (v4 + 1)), aR 1]) (show decode (mC 271) 218 = .ok (.iconst 2, 1) by decide +kernel) rfl rfl rfl ?_
  refine e_P (st' := [aI (v4 + 2), aR q_S, aI (scr G (v4 + 1)), aR 1]) (show decode (mC 271) 219 = .ok (.iadd, 1) by decide +kernel) rfl rfl rfl ?_
  refine e_sld (show decode (mC 271) 220 = .ok (.iaload, 1) by decide +kernel) s2 s3 ?_
  refine e_L (L' := [some (aR q_S), some (aR 1), some (aR 188), some (aR 211), some (aI v4), none, none]) (st' := [aR q_S, aI (scr G (v4 + 2)), aI (scr G (v4 + 1)), aR 1]) (show decode (mC 271) 221 = .ok (.aload_n 0, 1) by decide +kernel) rfl (by show (if q_S = 0 then none else some (_, _)) = _; rw [if_neg (by decide)]) ?_
  refine e_L (L' := [some (aR q_S), some (aR 1), some (aR 188), some (aR 211), some (aI v4), none, none]) (st' := [aI v4, aR q_S, aI (scr G (v4 + 2)), aI (scr G (v4 + 1)), aR 1]) (show decode (mC 271) 222 = .ok (.iload 4, 2) by decide +kernel) rfl rfl ?_
  refine e_P (st' := [aI 3, aI v4, aR q_S, aI (scr G (v4 + 2)), aI (scr G (v4 + 1)), aR 1]) (show decode (mC 271) 224 = .ok (.iconst 3, 1) by decide +kernel) rfl rfl rfl ?_
  refine e_P (st' := [aI (v4 + 3), aR q_S, aI (scr G (v4 + 2)), aI (scr G (v4 + 1)), aR 1]) (show decode (mC 271) 225 = .ok (.iadd, 1) by decide +kernel) rfl rfl rfl ?_
  refine e_sld (show decode (mC 271) 226 = .ok (.iaload, 1) by decide +kernel) s4 s5 ?_
  refine e_L (L' := [some (aR q_S), some (aR 1), some (aR 188), some (aR 211), some (aI v4), none, none]) (st' := [aR q_S, aI (scr G (v4 + 3)), aI (scr G (v4 + 2)), aI (scr G (v4 + 1)), aR 1]) (show decode (mC 271) 227 = .ok (.aload_n 0, 1) by decide +kernel) rfl (by show (if q_S = 0 then none else some (_, _)) = _; rw [if_neg (by decide)]) ?_
  refine e_L (L' := [some (aR q_S), some (aR 1), some (aR 188), some (aR 211), some (aI v4), none, none]) (st' := [aI v4, aR q_S, aI (scr G (v4 + 3)), aI (scr G (v4 + 2)), aI (scr G (v4 + 1)), aR 1]) (show decode (mC 271) 228 = .ok (.iload 4, 2) by decide +kernel) rfl rfl ?_
  refine e_P (st' := [aI 4, aI v4, aR q_S, aI (scr G (v4 + 3)), aI (scr G (v4 + 2)), aI (scr G (v4 + 1)), aR 1]) (show decode (mC 271) 230 = .ok (.iconst 4, 1) by decide +kernel) rfl rfl rfl ?_
  refine e_P (st' := [aI (v4 + 4), aR q_S, aI (scr G (v4 + 3)), aI (scr G (v4 + 2)), aI (scr G (v4 + 1)), aR 1]) (show decode (mC 271) 231 = .ok (.iadd, 1) by decide +kernel) rfl rfl rfl ?_
  refine e_sld (show decode (mC 271) 232 = .ok (.iaload, 1) by decide +kernel) s6 s7 ?_
  refine e_L (L' := [some (aR q_S), some (aR 1), some (aR 188), some (aR 211), some (aI v4), none, none]) (st' := [aR q_S, aI (scr G (v4 + 4)), aI (scr G (v4 + 3)), aI (scr G (v4 + 2)), aI (scr G (v4 + 1)), aR 1]) (show decode (mC 271) 233 = .ok (.aload_n 0, 1) by decide +kernel) rfl (by show (if q_S = 0 then none else some (_, _)) = _; rw [if_neg (by decide)]) ?_
  refine e_L (L' := [some (aR q_S), some (aR 1), some (aR 188), some (aR 211), some (aI v4), none, none]) (st' := [aI v4, aR q_S, aI (scr G (v4 + 4)), aI (scr G (v4 + 3)), aI (scr G (v4 + 2)), aI (scr G (v4 + 1)), aR 1]) (show decode (mC 271) 234 = .ok (.iload 4, 2) by decide +kernel) rfl rfl ?_
  refine e_P (st' := [aI 5, aI v4, aR q_S, aI (scr G (v4 + 4)), aI (scr G (v4 + 3)), aI (scr G (v4 + 2)), aI (scr G (v4 + 1)), aR 1]) (show decode (mC 271) 236 = .ok (.iconst 5, 1) by decide +kernel) rfl rfl rfl ?_
  refine e_P (st' := [aI (v4 + 5), aR q_S, aI (scr G (v4 + 4)), aI (scr G (v4 + 3)), aI (scr G (v4 + 2)), aI (scr G (v4 + 1)), aR 1]) (show decode (mC 271) 237 = .ok (.iadd, 1) by decide +kernel) rfl rfl rfl ?_
  refine e_sld (show decode (mC 271) 238 = .ok (.iaload, 1) by decide +kernel) s8 s9 ?_
  exact e_V (as := [aR 1, aI (scr G (v4 + 1)), aI (scr G (v4 + 2)), aI (scr G (v4 + 3)), aI (scr G (v4 + 4)), aI (scr G (v4 + 5))]) (rest := []) (show decode (mC 271) 239 = .ok (.invokevirtual 23, 3) by decide +kernel) (by decide +kernel) (show (decide ((6 : Nat) = mA 110) && decide (110 < q_law)) = true by decide +kernel) rfl (show (0 : Nat) ≤ 8 by decide) (show (6 : Nat) ≤ mL 110 by decide +kernel) rfl (sh_ok hG (by decide +kernel)) m10
theorem b271_242 (hG : Shp G) {v4 u0 : Int}
    (s0 : 0 ≤ (v4 + 1))
    (s1 : (v4 + 1) < (G.2.2.2.2.1 : Int))
    (s2 : 0 ≤ (v4 + 2))
    (s3 : (v4 + 2) < (G.2.2.2.2.1 : Int))
    (s4 : 0 ≤ (v4 + 3))
    (s5 : (v4 + 3) < (G.2.2.2.2.1 : Int))
    (s6 : 0 ≤ (v4 + 4))
    (s7 : (v4 + 4) < (G.2.2.2.2.1 : Int))
    (s8 : 0 ≤ (v4 + 5))
    (s9 : (v4 + 5) < (G.2.2.2.2.1 : Int))
    (m10 : TM (d + 1) 160 [aR 188, aI (scr G (v4 + 1)), aI (scr G (v4 + 2)), aI (scr G (v4 + 3)), aI (scr G (v4 + 4)), aI (scr G (v4 + 5))] (G, c) (fun r h' => T (d + 2) 271 276 [some (aR q_S), some (aR 1), some (aR 188), some (aR 211), some (aI v4), none, none] (r.toList ++ [aI u0]) h' Q)) :
    T (d + 2) 271 242 [some (aR q_S), some (aR 1), some (aR 188), some (aR 211), some (aI v4), none, none] [aI u0] (G, c) Q := by
  refine e_L (L' := [some (aR q_S), some (aR 1), some (aR 188), some (aR 211), some (aI v4), none, none]) (st' := [aR 188, aI u0]) (show decode (mC 271) 242 = .ok (.aload_n 2, 1) by decide +kernel) rfl (by show (if 188 = 0 then none else some (_, _)) = _; rw [if_neg (by decide)]) ?_
  refine e_L (L' := [some (aR q_S), some (aR 1), some (aR 188), some (aR 211), some (aI v4), none, none]) (st' := [aR q_S, aR 188, aI u0]) (show decode (mC 271) 243 = .ok (.aload_n 0, 1) by decide +kernel) rfl (by show (if q_S = 0 then none else some (_, _)) = _; rw [if_neg (by decide)]) ?_
  refine e_L (L' := [some (aR q_S), some (aR 1), some (aR 188), some (aR 211), some (aI v4), none, none]) (st' := [aI v4, aR q_S, aR 188, aI u0]) (show decode (mC 271) 244 = .ok (.iload 4, 2) by decide +kernel) rfl rfl ?_
  refine e_P (st' := [aI 1, aI v4, aR q_S, aR 188, aI u0]) (show decode (mC 271) 246 = .ok (.iconst 1, 1) by decide +kernel) rfl rfl rfl ?_
  refine e_P (st' := [aI (v4 + 1), aR q_S, aR 188, aI u0]) (show decode (mC 271) 247 = .ok (.iadd, 1) by decide +kernel) rfl rfl rfl ?_
  refine e_sld (show decode (mC 271) 248 = .ok (.iaload, 1) by decide +kernel) s0 s1 ?_
  refine e_L (L' := [some (aR q_S), some (aR 1), some (aR 188), some (aR 211), some (aI v4), none, none]) (st' := [aR q_S, aI (scr G (v4 + 1)), aR 188, aI u0]) (show decode (mC 271) 249 = .ok (.aload_n 0, 1) by decide +kernel) rfl (by show (if q_S = 0 then none else some (_, _)) = _; rw [if_neg (by decide)]) ?_
  refine e_L (L' := [some (aR q_S), some (aR 1), some (aR 188), some (aR 211), some (aI v4), none, none]) (st' := [aI v4, aR q_S, aI (scr G (v4 + 1)), aR 188, aI u0]) (show decode (mC 271) 250 = .ok (.iload 4, 2) by decide +kernel) rfl rfl ?_
  refine e_P (st' := [aI 2, aI v4, aR q_S, aI (scr G (v4 + 1)), aR 188, aI u0]) (show decode (mC 271) 252 = .ok (.iconst 2, 1) by decide +kernel) rfl rfl rfl ?_
  refine e_P (st' := [aI (v4 + 2), aR q_S, aI (scr G (v4 + 1)), aR 188, aI u0]) (show decode (mC 271) 253 = .ok (.iadd, 1) by decide +kernel) rfl rfl rfl ?_
  refine e_sld (show decode (mC 271) 254 = .ok (.iaload, 1) by decide +kernel) s2 s3 ?_
  refine e_L (L' := [some (aR q_S), some (aR 1), some (aR 188), some (aR 211), some (aI v4), none, none]) (st' := [aR q_S, aI (scr G (v4 + 2)), aI (scr G (v4 + 1)), aR 188, aI u0]) (show decode (mC 271) 255 = .ok (.aload_n 0, 1) by decide +kernel) rfl (by show (if q_S = 0 then none else some (_, _)) = _; rw [if_neg (by decide)]) ?_
  refine e_L (L' := [some (aR q_S), some (aR 1), some (aR 188), some (aR 211), some (aI v4), none, none]) (st' := [aI v4, aR q_S, aI (scr G (v4 + 2)), aI (scr G (v4 + 1)), aR 188, aI u0]) (show decode (mC 271) 256 = .ok (.iload 4, 2) by decide +kernel) rfl rfl ?_
  refine e_P (st' := [aI 3, aI v4, aR q_S, aI (scr G (v4 + 2)), aI (scr G (v4 + 1)), aR 188, aI u0]) (show decode (mC 271) 258 = .ok (.iconst 3, 1) by decide +kernel) rfl rfl rfl ?_
  refine e_P (st' := [aI (v4 + 3), aR q_S, aI (scr G (v4 + 2)), aI (scr G (v4 + 1)), aR 188, aI u0]) (show decode (mC 271) 259 = .ok (.iadd, 1) by decide +kernel) rfl rfl rfl ?_
  refine e_sld (show decode (mC 271) 260 = .ok (.iaload, 1) by decide +kernel) s4 s5 ?_
  refine e_L (L' := [some (aR q_S), some (aR 1), some (aR 188), some (aR 211), some (aI v4), none, none]) (st' := [aR q_S, aI (scr G (v4 + 3)), aI (scr G (v4 + 2)), aI (scr G (v4 + 1)), aR 188, aI u0]) (show decode (mC 271) 261 = .ok (.aload_n 0, 1) by decide +kernel) rfl (by show (if q_S = 0 then none else some (_, _)) = _; rw [if_neg (by decide)]) ?_
  refine e_L (L' := [some (aR q_S), some (aR 1), some (aR 188), some (aR 211), some (aI v4), none, none]) (st' := [aI v4, aR q_S, aI (scr G (v4 + 3)), aI (scr G (v4 + 2)), aI (scr G (v4 + 1)), aR 188, aI u0]) (show decode (mC 271) 262 = .ok (.iload 4, 2) by decide +kernel) rfl rfl ?_
  refine e_P (st' := [aI 4, aI v4, aR q_S, aI (scr G (v4 + 3)), aI (scr G (v4 + 2)), aI (scr G (v4 + 1)), aR 188, aI u0]) (show decode (mC 271) 264 = .ok (.iconst 4, 1) by decide +kernel) rfl rfl rfl ?_
  refine e_P (st' := [aI (v4 + 4), aR q_S, aI (scr G (v4 + 3)), aI (scr G (v4 + 2)), aI (scr G (v4 + 1)), aR 188, aI u0]) (show decode (mC 271) 265 = .ok (.iadd, 1) by decide +kernel) rfl rfl rfl ?_
  refine e_sld (show decode (mC 271) 266 = .ok (.iaload, 1) by decide +kernel) s6 s7 ?_
  refine e_L (L' := [some (aR q_S), some (aR 1), some (aR 188), some (aR 211), some (aI v4), none, none]) (st' := [aR q_S, aI (scr G (v4 + 4)), aI (scr G (v4 + 3)), aI (scr G (v4 + 2)), aI (scr G (v4 + 1)), aR 188, aI u0]) (show decode (mC 271) 267 = .ok (.aload_n 0, 1) by decide +kernel) rfl (by show (if q_S = 0 then none else some (_, _)) = _; rw [if_neg (by decide)]) ?_
  refine e_L (L' := [some (aR q_S), some (aR 1), some (aR 188), some (aR 211), some (aI v4), none, none]) (st' := [aI v4, aR q_S, aI (scr G (v4 + 4)), aI (scr G (v4 + 3)), aI (scr G (v4 + 2)), aI (scr G (v4 + 1)), aR 188, aI u0]) (show decode (mC 271) 268 = .ok (.iload 4, 2) by decide +kernel) rfl rfl ?_
  refine e_P (st' := [aI 5, aI v4, aR q_S, aI (scr G (v4 + 4)), aI (scr G (v4 + 3)), aI (scr G (v4 + 2)), aI (scr G (v4 + 1)), aR 188, aI u0]) (show decode (mC 271) 270 = .ok (.iconst 5, 1) by decide +kernel) rfl rfl rfl ?_
  refine e_P (st' := [aI (v4 + 5), aR q_S, aI (scr G (v4 + 4)), aI (scr G (v4 + 3)), aI (scr G (v4 + 2)), aI (scr G (v4 + 1)), aR 188, aI u0]) (show decode (mC 271) 271 = .ok (.iadd, 1) by decide +kernel) rfl rfl rfl ?_
  refine e_sld (show decode (mC 271) 272 = .ok (.iaload, 1) by decide +kernel) s8 s9 ?_
  exact e_V (as := [aR 188, aI (scr G (v4 + 1)), aI (scr G (v4 + 2)), aI (scr G (v4 + 3)), aI (scr G (v4 + 4)), aI (scr G (v4 + 5))]) (rest := [aI u0]) (show decode (mC 271) 273 = .ok (.invokevirtual 27, 3) by decide +kernel) (by decide +kernel) (show (decide ((6 : Nat) = mA 160) && decide (160 < q_law)) = true by decide +kernel) rfl (show (1 : Nat) ≤ 8 by decide) (show (6 : Nat) ≤ mL 160 by decide +kernel) rfl (sh_ok hG (by decide +kernel)) m10
theorem b271_276 (hG : Shp G) {v4 u0 u1 : Int}
    (s0 : -2147483648 ≤ u0 ∧ u0 < 2147483648)
    (s1 : -2147483648 ≤ u1 ∧ u1 < 2147483648)
    (k2 : (u0 = u1) → T (d + 2) 271 1328 [some (aR q_S), some (aR 1), some (aR 188), some (aR 211), some (aI v4), none, none] [] (G, c) Q)
    (z3 : (¬ u0 = u1) → Q (.inl (some (aI 0))) (G, c)) :
    T (d + 2) 271 276 [some (aR q_S), some (aR 1), some (aR 188), some (aR 211), some (aI v4), none, none] [aI u1, aI u0] (G, c) Q := by
  refine e_eq2 (t := 1328) (show decode (mC 271) 276 = .ok (.if_icmp .eq 1052, 3) by decide +kernel) (by decide) s0 s1 (fun p1 => ?_) (fun p1 => ?_)
  · exact (k2 p1)
  · refine e_P (st' := [aI 0]) (show decode (mC 271) 279 = .ok (.iconst 0, 1) by decide +kernel) rfl rfl rfl ?_
    exact e_zret (show decode (mC 271) 280 = .ok (.ireturn, 1) by decide +kernel) rfl (by decide) (z3 p1)
theorem b271_281 (hG : Shp G) {v4 : Int}
    (s0 : 0 ≤ (v4 + 1))
    (s1 : (v4 + 1) < (G.2.2.2.2.1 : Int))
    (m2 : TM (d + 1) 111 [aR 1, aI (scr G (v4 + 1))] (G, c) (fun r h' => T (d + 2) 271 291 [some (aR q_S), some (aR 1), some (aR 188), some (aR 211), some (aI v4), none, none] (r.toList ++ []) h' Q)) :
    T (d + 2) 271 281 [some (aR q_S), some (aR 1), some (aR 188), some (aR 211), some (aI v4), none, none] [] (G, c) Q := by
  refine e_L (L' := [some (aR q_S), some (aR 1), some (aR 188), some (aR 211), some (aI v4), none, none]) (st' := [aR 1]) (show decode (mC 271) 281 = .ok (.aload_n 1, 1) by decide +kernel) rfl (by show (if 1 = 0 then none else some (_, _)) = _; rw [if_neg (by decide)]) ?_
  refine e_L (L' := [some (aR q_S), some (aR 1), some (aR 188), some (aR 211), some (aI v4), none, none]) (st' := [aR q_S, aR 1]) (show decode (mC 271) 282 = .ok (.aload_n 0, 1) by decide +kernel) rfl (by show (if q_S = 0 then none else some (_, _)) = _; rw [if_neg (by decide)]) ?_
  refine e_L (L' := [some (aR q_S), some (aR 1), some (aR 188), some (aR 211), some (aI v4), none, none]) (st' := [aI v4, aR q_S, aR 1]) (show decode (mC 271) 283 = .ok (.iload 4, 2) by decide +kernel) rfl rfl ?_
  refine e_P (st' := [aI 1, aI v4, aR q_S, aR 1]) (show decode (mC 271) 285 = .ok (.iconst 1, 1) by decide +kernel) rfl rfl rfl ?_
  refine e_P (st' := [aI (v4 + 1), aR q_S, aR 1]) (show decode (mC 271) 286 = .ok (.iadd, 1) by decide +kernel) rfl rfl rfl ?_
  refine e_sld (show decode (mC 271) 287 = .ok (.iaload, 1) by decide +kernel) s0 s1 ?_
  exact e_V (as := [aR 1, aI (scr G (v4 + 1))]) (rest := []) (show decode (mC 271) 288 = .ok (.invokevirtual 28, 3) by decide +kernel) (by decide +kernel) (show (decide ((2 : Nat) = mA 111) && decide (111 < q_law)) = true by decide +kernel) rfl (show (0 : Nat) ≤ 8 by decide) (show (2 : Nat) ≤ mL 111 by decide +kernel) rfl (sh_ok hG (by decide +kernel)) m2
theorem b271_291 (hG : Shp G) {v4 u0 : Int}
    (s0 : 0 ≤ (v4 + 1))
    (s1 : (v4 + 1) < (G.2.2.2.2.1 : Int))
    (m2 : TM (d + 1) 162 [aR 188, aI (scr G (v4 + 1))] (G, c) (fun r h' => T (d + 2) 271 301 [some (aR q_S), some (aR 1), some (aR 188), some (aR 211), some (aI v4), none, none] (r.toList ++ [aI u0]) h' Q)) :
    T (d + 2) 271 291 [some (aR q_S), some (aR 1), some (aR 188), some (aR 211), some (aI v4), none, none] [aI u0] (G, c) Q := by
  refine e_L (L' := [some (aR q_S), some (aR 1), some (aR 188), some (aR 211), some (aI v4), none, none]) (st' := [aR 188, aI u0]) (show decode (mC 271) 291 = .ok (.aload_n 2, 1) by decide +kernel) rfl (by show (if 188 = 0 then none else some (_, _)) = _; rw [if_neg (by decide)]) ?_
  refine e_L (L' := [some (aR q_S), some (aR 1), some (aR 188), some (aR 211), some (aI v4), none, none]) (st' := [aR q_S, aR 188, aI u0]) (show decode (mC 271) 292 = .ok (.aload_n 0, 1) by decide +kernel) rfl (by show (if q_S = 0 then none else some (_, _)) = _; rw [if_neg (by decide)]) ?_
  refine e_L (L' := [some (aR q_S), some (aR 1), some (aR 188), some (aR 211), some (aI v4), none, none]) (st' := [aI v4, aR q_S, aR 188, aI u0]) (show decode (mC 271) 293 = .ok (.iload 4, 2) by decide +kernel) rfl rfl ?_
  refine e_P (st' := [aI 1, aI v4, aR q_S, aR 188, aI u0]) (show decode (mC 271) 295 = .ok (.iconst 1, 1) by decide +kernel) rfl rfl rfl ?_
  refine e_P (st' := [aI (v4 + 1), aR q_S, aR 188, aI u0]) (show decode (mC 271) 296 = .ok (.iadd, 1) by decide +kernel) rfl rfl rfl ?_
  refine e_sld (show decode (mC 271) 297 = .ok (.iaload, 1) by decide +kernel) s0 s1 ?_
  exact e_V (as := [aR 188, aI (scr G (v4 + 1))]) (rest := [aI u0]) (show decode (mC 271) 298 = .ok (.invokevirtual 32, 3) by decide +kernel) (by decide +kernel) (show (decide ((2 : Nat) = mA 162) && decide (162 < q_law)) = true by decide +kernel) rfl (show (1 : Nat) ≤ 8 by decide) (show (2 : Nat) ≤ mL 162 by decide +kernel) rfl (sh_ok hG (by decide +kernel)) m2
theorem b271_301 (hG : Shp G) {v4 u0 u1 : Int}
    (s0 : -2147483648 ≤ u0 ∧ u0 < 2147483648)
    (s1 : -2147483648 ≤ u1 ∧ u1 < 2147483648)
    (k2 : (u0 = u1) → T (d + 2) 271 1328 [some (aR q_S), some (aR 1), some (aR 188), some (aR 211), some (aI v4), none, none] [] (G, c) Q)
    (z3 : (¬ u0 = u1) → Q (.inl (some (aI 0))) (G, c)) :
    T (d + 2) 271 301 [some (aR q_S), some (aR 1), some (aR 188), some (aR 211), some (aI v4), none, none] [aI u1, aI u0] (G, c) Q := by
  refine e_eq2 (t := 1328) (show decode (mC 271) 301 = .ok (.if_icmp .eq 1027, 3) by decide +kernel) (by decide) s0 s1 (fun p1 => ?_) (fun p1 => ?_)
  · exact (k2 p1)
  · refine e_P (st' := [aI 0]) (show decode (mC 271) 304 = .ok (.iconst 0, 1) by decide +kernel) rfl rfl rfl ?_
    exact e_zret (show decode (mC 271) 305 = .ok (.ireturn, 1) by decide +kernel) rfl (by decide) (z3 p1)
theorem b271_306 (hG : Shp G) {v4 : Int}
    (m0 : TM (d + 1) 112 [aR 1] (G, c) (fun r h' => T (d + 2) 271 310 [some (aR q_S), some (aR 1), some (aR 188), some (aR 211), some (aI v4), none, none] (r.toList ++ []) h' Q)) :
    T (d + 2) 271 306 [some (aR q_S), some (aR 1), some (aR 188), some (aR 211), some (aI v4), none, none] [] (G, c) Q := by
  refine e_L (L' := [some (aR q_S), some (aR 1), some (aR 188), some (aR 211), some (aI v4), none, none]) (st' := [aR 1]) (show decode (mC 271) 306 = .ok (.aload_n 1, 1) by decide +kernel) rfl (by show (if 1 = 0 then none else some (_, _)) = _; rw [if_neg (by decide)]) ?_
  exact e_V (as := [aR 1]) (rest := []) (show decode (mC 271) 307 = .ok (.invokevirtual 33, 3) by decide +kernel) (by decide +kernel) (show (decide ((1 : Nat) = mA 112) && decide (112 < q_law)) = true by decide +kernel) rfl (show (0 : Nat) ≤ 8 by decide) (show (1 : Nat) ≤ mL 112 by decide +kernel) rfl (sh_ok hG (by decide +kernel)) m0
theorem b271_310 (hG : Shp G) {v4 u0 : Int}
    (m0 : TM (d + 1) 185 [aR 188] (G, c) (fun r h' => T (d + 2) 271 314 [some (aR q_S), some (aR 1), some (aR 188), some (aR 211), some (aI v4), none, none] (r.toList ++ [aI u0]) h' Q)) :
    T (d + 2) 271 310 [some (aR q_S), some (aR 1), some (aR 188), some (aR 211), some (aI v4), none, none] [aI u0] (G, c) Q := by
  refine e_L (L' := [some (aR q_S), some (aR 1), some (aR 188), some (aR 211), some (aI v4), none, none]) (st' := [aR 188, aI u0]) (show decode (mC 271) 310 = .ok (.aload_n 2, 1) by decide +kernel) rfl (by show (if 188 = 0 then none else some (_, _)) = _; rw [if_neg (by decide)]) ?_
  exact e_V (as := [aR 188]) (rest := [aI u0]) (show decode (mC 271) 311 = .ok (.invokevirtual 37, 3) by decide +kernel) (by decide +kernel) (show (decide ((1 : Nat) = mA 185) && decide (185 < q_law)) = true by decide +kernel) rfl (show (1 : Nat) ≤ 8 by decide) (show (1 : Nat) ≤ mL 185 by decide +kernel) rfl (sh_ok hG (by decide +kernel)) m0
theorem b271_314 (hG : Shp G) {v4 u0 u1 : Int}
    (s0 : -2147483648 ≤ u0 ∧ u0 < 2147483648)
    (s1 : -2147483648 ≤ u1 ∧ u1 < 2147483648)
    (k2 : (u0 = u1) → T (d + 2) 271 1328 [some (aR q_S), some (aR 1), some (aR 188), some (aR 211), some (aI v4), none, none] [] (G, c) Q)
    (z3 : (¬ u0 = u1) → Q (.inl (some (aI 0))) (G, c)) :
    T (d + 2) 271 314 [some (aR q_S), some (aR 1), some (aR 188), some (aR 211), some (aI v4), none, none] [aI u1, aI u0] (G, c) Q := by
  refine e_eq2 (t := 1328) (show decode (mC 271) 314 = .ok (.if_icmp .eq 1014, 3) by decide +kernel) (by decide) s0 s1 (fun p1 => ?_) (fun p1 => ?_)
  · exact (k2 p1)
  · refine e_P (st' := [aI 0]) (show decode (mC 271) 317 = .ok (.iconst 0, 1) by decide +kernel) rfl rfl rfl ?_
    exact e_zret (show decode (mC 271) 318 = .ok (.ireturn, 1) by decide +kernel) rfl (by decide) (z3 p1)
theorem b271_319 (hG : Shp G) {v4 : Int}
    (m0 : TM (d + 1) 113 [aR 1] (G, c) (fun r h' => T (d + 2) 271 323 [some (aR q_S), some (aR 1), some (aR 188), some (aR 211), some (aI v4), none, none] (r.toList ++ []) h' Q)) :
    T (d + 2) 271 319 [some (aR q_S), some (aR 1), some (aR 188), some (aR 211), some (aI v4), none, none] [] (G, c) Q := by
  refine e_L (L' := [some (aR q_S), some (aR 1), some (aR 188), some (aR 211), some (aI v4), none, none]) (st' := [aR 1]) (show decode (mC 271) 319 = .ok (.aload_n 1, 1) by decide +kernel) rfl (by show (if 1 = 0 then none else some (_, _)) = _; rw [if_neg (by decide)]) ?_
  exact e_V (as := [aR 1]) (rest := []) (show decode (mC 271) 320 = .ok (.invokevirtual 38, 3) by decide +kernel) (by decide +kernel) (show (decide ((1 : Nat) = mA 113) && decide (113 < q_law)) = true by decide +kernel) rfl (show (0 : Nat) ≤ 8 by decide) (show (1 : Nat) ≤ mL 113 by decide +kernel) rfl (sh_ok hG (by decide +kernel)) m0
theorem b271_323 (hG : Shp G) {v4 u0 : Int}
    (m0 : TM (d + 1) 186 [aR 188] (G, c) (fun r h' => T (d + 2) 271 327 [some (aR q_S), some (aR 1), some (aR 188), some (aR 211), some (aI v4), none, none] (r.toList ++ [aI u0]) h' Q)) :
    T (d + 2) 271 323 [some (aR q_S), some (aR 1), some (aR 188), some (aR 211), some (aI v4), none, none] [aI u0] (G, c) Q := by
  refine e_L (L' := [some (aR q_S), some (aR 1), some (aR 188), some (aR 211), some (aI v4), none, none]) (st' := [aR 188, aI u0]) (show decode (mC 271) 323 = .ok (.aload_n 2, 1) by decide +kernel) rfl (by show (if 188 = 0 then none else some (_, _)) = _; rw [if_neg (by decide)]) ?_
  exact e_V (as := [aR 188]) (rest := [aI u0]) (show decode (mC 271) 324 = .ok (.invokevirtual 41, 3) by decide +kernel) (by decide +kernel) (show (decide ((1 : Nat) = mA 186) && decide (186 < q_law)) = true by decide +kernel) rfl (show (1 : Nat) ≤ 8 by decide) (show (1 : Nat) ≤ mL 186 by decide +kernel) rfl (sh_ok hG (by decide +kernel)) m0
theorem b271_327 (hG : Shp G) {v4 u0 u1 : Int}
    (s0 : -2147483648 ≤ u0 ∧ u0 < 2147483648)
    (s1 : -2147483648 ≤ u1 ∧ u1 < 2147483648)
    (k2 : (u0 = u1) → T (d + 2) 271 1328 [some (aR q_S), some (aR 1), some (aR 188), some (aR 211), some (aI v4), none, none] [] (G, c) Q)
    (z3 : (¬ u0 = u1) → Q (.inl (some (aI 0))) (G, c)) :
    T (d + 2) 271 327 [some (aR q_S), some (aR 1), some (aR 188), some (aR 211), some (aI v4), none, none] [aI u1, aI u0] (G, c) Q := by
  refine e_eq2 (t := 1328) (show decode (mC 271) 327 = .ok (.if_icmp .eq 1001, 3) by decide +kernel) (by decide) s0 s1 (fun p1 => ?_) (fun p1 => ?_)
  · exact (k2 p1)
  · refine e_P (st' := [aI 0]) (show decode (mC 271) 330 = .ok (.iconst 0, 1) by decide +kernel) rfl rfl rfl ?_
    exact e_zret (show decode (mC 271) 331 = .ok (.ireturn, 1) by decide +kernel) rfl (by decide) (z3 p1)
theorem b271_332 (hG : Shp G) {v4 : Int}
    (s0 : 0 ≤ (v4 + 1))
    (s1 : (v4 + 1) < (G.2.2.2.2.1 : Int))
    (s2 : 0 ≤ (v4 + 2))
    (s3 : (v4 + 2) < (G.2.2.2.2.1 : Int))
    (m4 : TM (d + 1) 119 [aR 1, aI (scr G (v4 + 1)), aI (scr G (v4 + 2))] (G, c) (fun r h' => T (d + 2) 271 348 [some (aR q_S), some (aR 1), some (aR 188), some (aR 211), some (aI v4), none, none] (r.toList ++ []) h' Q)) :
    T (d + 2) 271 332 [some (aR q_S), some (aR 1), some (aR 188), some (aR 211), some (aI v4), none, none] [] (G, c) Q := by
  refine e_L (L' := [some (aR q_S), some (aR 1), some (aR 188), some (aR 211), some (aI v4), none, none]) (st' := [aR 1]) (show decode (mC 271) 332 = .ok (.aload_n 1, 1) by decide +kernel) rfl (by show (if 1 = 0 then none else some (_, _)) = _; rw [if_neg (by decide)]) ?_
  refine e_L (L' := [some (aR q_S), some (aR 1), some (aR 188), some (aR 211), some (aI v4), none, none]) (st' := [aR q_S, aR 1]) (show decode (mC 271) 333 = .ok (.aload_n 0, 1) by decide +kernel) rfl (by show (if q_S = 0 then none else some (_, _)) = _; rw [if_neg (by decide)]) ?_
  refine e_L (L' := [some (aR q_S), some (aR 1), some (aR 188), some (aR 211), some (aI v4), none, none]) (st' := [aI v4, aR q_S, aR 1]) (show decode (mC 271) 334 = .ok (.iload 4, 2) by decide +kernel) rfl rfl ?_
  refine e_P (st' := [aI 1, aI v4, aR q_S, aR 1]) (show decode (mC 271) 336 = .ok (.iconst 1, 1) by decide +kernel) rfl rfl rfl ?_
  refine e_P (st' := [aI (v4 + 1), aR q_S, aR 1]) (show decode (mC 271) 337 = .ok (.iadd, 1) by decide +kernel) rfl rfl rfl ?_
  refine e_sld (show decode (mC 271) 338 = .ok (.iaload, 1) by decide +kernel) s0 s1 ?_
  refine e_L (L' := [some (aR q_S), some (aR 1), some (aR 188), some (aR 211), some (aI v4), none, none]) (st' := [aR q_S, aI (scr G (v4 + 1)), aR 1]) (show decode (mC 271) 339 = .ok (.aload_n 0, 1) by decide +kernel) rfl (by show (if q_S = 0 then none else some (_, _)) = _; rw [if_neg (by decide)]) ?_
  refine e_L (L' := [some (aR q_S), some (aR 1), some (aR 188), some (aR 211), some (aI v4), none, none]) (st' := [aI v4, aR q_S, aI (scr G (v4 + 1)), aR 1]) (show decode (mC 271) 340 = .ok (.iload 4, 2) by decide +kernel) rfl rfl ?_
  refine e_P (st' := [aI 2, aI v4, aR q_S, aI (scr G (v4 + 1)), aR 1]) (show decode (mC 271) 342 = .ok (.iconst 2, 1) by decide +kernel) rfl rfl rfl ?_
  refine e_P (st' := [aI (v4 + 2), aR q_S, aI (scr G (v4 + 1)), aR 1]) (show decode (mC 271) 343 = .ok (.iadd, 1) by decide +kernel) rfl rfl rfl ?_
  refine e_sld (show decode (mC 271) 344 = .ok (.iaload, 1) by decide +kernel) s2 s3 ?_
  exact e_V (as := [aR 1, aI (scr G (v4 + 1)), aI (scr G (v4 + 2))]) (rest := []) (show decode (mC 271) 345 = .ok (.invokevirtual 42, 3) by decide +kernel) (by decide +kernel) (show (decide ((3 : Nat) = mA 119) && decide (119 < q_law)) = true by decide +kernel) rfl (show (0 : Nat) ≤ 8 by decide) (show (3 : Nat) ≤ mL 119 by decide +kernel) rfl (sh_ok hG (by decide +kernel)) m4
theorem b271_348 (hG : Shp G) {v4 u0 : Int}
    (s0 : 0 ≤ (v4 + 1))
    (s1 : (v4 + 1) < (G.2.2.2.2.1 : Int))
    (s2 : 0 ≤ (v4 + 2))
    (s3 : (v4 + 2) < (G.2.2.2.2.1 : Int))
    (m4 : TM (d + 1) 190 [aR 188, aI (scr G (v4 + 1)), aI (scr G (v4 + 2))] (G, c) (fun r h' => T (d + 2) 271 364 [some (aR q_S), some (aR 1), some (aR 188), some (aR 211), some (aI v4), none, none] (r.toList ++ [aI u0]) h' Q)) :
    T (d + 2) 271 348 [some (aR q_S), some (aR 1), some (aR 188), some (aR 211), some (aI v4), none, none] [aI u0] (G, c) Q := by
  refine e_L (L' := [some (aR q_S), some (aR 1), some (aR 188), some (aR 211), some (aI v4), none, none]) (st' := [aR 188, aI u0]) (show decode (mC 271) 348 = .ok (.aload_n 2, 1) by decide +kernel) rfl (by show (if 188 = 0 then none else some (_, _)) = _; rw [if_neg (by decide)]) ?_
  refine e_L (L' := [some (aR q_S), some (aR 1), some (aR 188), some (aR 211), some (aI v4), none, none]) (st' := [aR q_S, aR 188, aI u0]) (show decode (mC 271) 349 = .ok (.aload_n 0, 1) by decide +kernel) rfl (by show (if q_S = 0 then none else some (_, _)) = _; rw [if_neg (by decide)]) ?_
  refine e_L (L' := [some (aR q_S), some (aR 1), some (aR 188), some (aR 211), some (aI v4), none, none]) (st' := [aI v4, aR q_S, aR 188, aI u0]) (show decode (mC 271) 350 = .ok (.iload 4, 2) by decide +kernel) rfl rfl ?_
  refine e_P (st' := [aI 1, aI v4, aR q_S, aR 188, aI u0]) (show decode (mC 271) 352 = .ok (.iconst 1, 1) by decide +kernel) rfl rfl rfl ?_
  refine e_P (st' := [aI (v4 + 1), aR q_S, aR 188, aI u0]) (show decode (mC 271) 353 = .ok (.iadd, 1) by decide +kernel) rfl rfl rfl ?_
  refine e_sld (show decode (mC 271) 354 = .ok (.iaload, 1) by decide +kernel) s0 s1 ?_
  refine e_L (L' := [some (aR q_S), some (aR 1), some (aR 188), some (aR 211), some (aI v4), none, none]) (st' := [aR q_S, aI (scr G (v4 + 1)), aR 188, aI u0]) (show decode (mC 271) 355 = .ok (.aload_n 0, 1) by decide +kernel) rfl (by show (if q_S = 0 then none else some (_, _)) = _; rw [if_neg (by decide)]) ?_
  refine e_L (L' := [some (aR q_S), some (aR 1), some (aR 188), some (aR 211), some (aI v4), none, none]) (st' := [aI v4, aR q_S, aI (scr G (v4 + 1)), aR 188, aI u0]) (show decode (mC 271) 356 = .ok (.iload 4, 2) by decide +kernel) rfl rfl ?_
  refine e_P (st' := [aI 2, aI v4, aR q_S, aI (scr G (v4 + 1)), aR 188, aI u0]) (show decode (mC 271) 358 = .ok (.iconst 2, 1) by decide +kernel) rfl rfl rfl ?_
  refine e_P (st' := [aI (v4 + 2), aR q_S, aI (scr G (v4 + 1)), aR 188, aI u0]) (show decode (mC 271) 359 = .ok (.iadd, 1) by decide +kernel) rfl rfl rfl ?_
  refine e_sld (show decode (mC 271) 360 = .ok (.iaload, 1) by decide +kernel) s2 s3 ?_
  exact e_V (as := [aR 188, aI (scr G (v4 + 1)), aI (scr G (v4 + 2))]) (rest := [aI u0]) (show decode (mC 271) 361 = .ok (.invokevirtual 45, 3) by decide +kernel) (by decide +kernel) (show (decide ((3 : Nat) = mA 190) && decide (190 < q_law)) = true by decide +kernel) rfl (show (1 : Nat) ≤ 8 by decide) (show (3 : Nat) ≤ mL 190 by decide +kernel) rfl (sh_ok hG (by decide +kernel)) m4
theorem b271_364 (hG : Shp G) {v4 u0 u1 : Int}
    (s0 : -2147483648 ≤ u0 ∧ u0 < 2147483648)
    (s1 : -2147483648 ≤ u1 ∧ u1 < 2147483648)
    (k2 : (u0 = u1) → T (d + 2) 271 1328 [some (aR q_S), some (aR 1), some (aR 188), some (aR 211), some (aI v4), none, none] [] (G, c) Q)
    (z3 : (¬ u0 = u1) → Q (.inl (some (aI 0))) (G, c)) :
    T (d + 2) 271 364 [some (aR q_S), some (aR 1), some (aR 188), some (aR 211), some (aI v4), none, none] [aI u1, aI u0] (G, c) Q := by
  refine e_eq2 (t := 1328) (show decode (mC 271) 364 = .ok (.if_icmp .eq 964, 3) by decide +kernel) (by decide) s0 s1 (fun p1 => ?_) (fun p1 => ?_)
  · exact (k2 p1)
  · refine e_P (st' := [aI 0]) (show decode (mC 271) 367 = .ok (.iconst 0, 1) by decide +kernel) rfl rfl rfl ?_
    exact e_zret (show decode (mC 271) 368 = .ok (.ireturn, 1) by decide +kernel) rfl (by decide) (z3 p1)
theorem b271_369 (hG : Shp G) {v4 : Int}
    (s0 : 0 ≤ (v4 + 1))
    (s1 : (v4 + 1) < (G.2.2.2.2.1 : Int))
    (s2 : 0 ≤ (v4 + 2))
    (s3 : (v4 + 2) < (G.2.2.2.2.1 : Int))
    (m4 : TM (d + 1) 120 [aR 1, aI (scr G (v4 + 1)), aI (scr G (v4 + 2))] (G, c) (fun r h' => T (d + 2) 271 385 [some (aR q_S), some (aR 1), some (aR 188), some (aR 211), some (aI v4), none, none] (r.toList ++ []) h' Q)) :
    T (d + 2) 271 369 [some (aR q_S), some (aR 1), some (aR 188), some (aR 211), some (aI v4), none, none] [] (G, c) Q := by
  refine e_L (L' := [some (aR q_S), some (aR 1), some (aR 188), some (aR 211), some (aI v4), none, none]) (st' := [aR 1]) (show decode (mC 271) 369 = .ok (.aload_n 1, 1) by decide +kernel) rfl (by show (if 1 = 0 then none else some (_, _)) = _; rw [if_neg (by decide)]) ?_
  refine e_L (L' := [some (aR q_S), some (aR 1), some (aR 188), some (aR 211), some (aI v4), none, none]) (st' := [aR q_S, aR 1]) (show decode (mC 271) 370 = .ok (.aload_n 0, 1) by decide +kernel) rfl (by show (if q_S = 0 then none else some (_, _)) = _; rw [if_neg (by decide)]) ?_
  refine e_L (L' := [some (aR q_S), some (aR 1), some (aR 188), some (aR 211), some (aI v4), none, none]) (st' := [aI v4, aR q_S, aR 1]) (show decode (mC 271) 371 = .ok (.iload 4, 2) by decide +kernel) rfl rfl ?_
  refine e_P (st' := [aI 1, aI v4, aR q_S, aR 1]) (show decode (mC 271) 373 = .ok (.iconst 1, 1) by decide +kernel) rfl rfl rfl ?_
  refine e_P (st' := [aI (v4 + 1), aR q_S, aR 1]) (show decode (mC 271) 374 = .ok (.iadd, 1) by decide +kernel) rfl rfl rfl ?_
  refine e_sld (show decode (mC 271) 375 = .ok (.iaload, 1) by decide +kernel) s0 s1 ?_
  refine e_L (L' := [some (aR q_S), some (aR 1), some (aR 188), some (aR 211), some (aI v4), none, none]) (st' := [aR q_S, aI (scr G (v4 + 1)), aR 1]) (show decode (mC 271) 376 = .ok (.aload_n 0, 1) by decide +kernel) rfl (by show (if q_S = 0 then none else some (_, _)) = _; rw [if_neg (by decide)]) ?_
  refine e_L (L' := [some (aR q_S), some (aR 1), some (aR 188), some (aR 211), some (aI v4), none, none]) (st' := [aI v4, aR q_S, aI (scr G (v4 + 1)), aR 1]) (show decode (mC 271) 377 = .ok (.iload 4, 2) by decide +kernel) rfl rfl ?_
  refine e_P (st' := [aI 2, aI v4, aR q_S, aI (scr G (v4 + 1)), aR 1]) (show decode (mC 271) 379 = .ok (.iconst 2, 1) by decide +kernel) rfl rfl rfl ?_
  refine e_P (st' := [aI (v4 + 2), aR q_S, aI (scr G (v4 + 1)), aR 1]) (show decode (mC 271) 380 = .ok (.iadd, 1) by decide +kernel) rfl rfl rfl ?_
  refine e_sld (show decode (mC 271) 381 = .ok (.iaload, 1) by decide +kernel) s2 s3 ?_
  exact e_V (as := [aR 1, aI (scr G (v4 + 1)), aI (scr G (v4 + 2))]) (rest := []) (show decode (mC 271) 382 = .ok (.invokevirtual 46, 3) by decide +kernel) (by decide +kernel) (show (decide ((3 : Nat) = mA 120) && decide (120 < q_law)) = true by decide +kernel) rfl (show (0 : Nat) ≤ 8 by decide) (show (3 : Nat) ≤ mL 120 by decide +kernel) rfl (sh_ok hG (by decide +kernel)) m4
theorem b271_385 (hG : Shp G) {v4 u0 : Int}
    (s0 : 0 ≤ (v4 + 1))
    (s1 : (v4 + 1) < (G.2.2.2.2.1 : Int))
    (s2 : 0 ≤ (v4 + 2))
    (s3 : (v4 + 2) < (G.2.2.2.2.1 : Int))
    (m4 : TM (d + 1) 191 [aR 188, aI (scr G (v4 + 1)), aI (scr G (v4 + 2))] (G, c) (fun r h' => T (d + 2) 271 401 [some (aR q_S), some (aR 1), some (aR 188), some (aR 211), some (aI v4), none, none] (r.toList ++ [aI u0]) h' Q)) :
    T (d + 2) 271 385 [some (aR q_S), some (aR 1), some (aR 188), some (aR 211), some (aI v4), none, none] [aI u0] (G, c) Q := by
  refine e_L (L' := [some (aR q_S), some (aR 1), some (aR 188), some (aR 211), some (aI v4), none, none]) (st' := [aR 188, aI u0]) (show decode (mC 271) 385 = .ok (.aload_n 2, 1) by decide +kernel) rfl (by show (if 188 = 0 then none else some (_, _)) = _; rw [if_neg (by decide)]) ?_
  refine e_L (L' := [some (aR q_S), some (aR 1), some (aR 188), some (aR 211), some (aI v4), none, none]) (st' := [aR q_S, aR 188, aI u0]) (show decode (mC 271) 386 = .ok (.aload_n 0, 1) by decide +kernel) rfl (by show (if q_S = 0 then none else some (_, _)) = _; rw [if_neg (by decide)]) ?_
  refine e_L (L' := [some (aR q_S), some (aR 1), some (aR 188), some (aR 211), some (aI v4), none, none]) (st' := [aI v4, aR q_S, aR 188, aI u0]) (show decode (mC 271) 387 = .ok (.iload 4, 2) by decide +kernel) rfl rfl ?_
  refine e_P (st' := [aI 1, aI v4, aR q_S, aR 188, aI u0]) (show decode (mC 271) 389 = .ok (.iconst 1, 1) by decide +kernel) rfl rfl rfl ?_
  refine e_P (st' := [aI (v4 + 1), aR q_S, aR 188, aI u0]) (show decode (mC 271) 390 = .ok (.iadd, 1) by decide +kernel) rfl rfl rfl ?_
  refine e_sld (show decode (mC 271) 391 = .ok (.iaload, 1) by decide +kernel) s0 s1 ?_
  refine e_L (L' := [some (aR q_S), some (aR 1), some (aR 188), some (aR 211), some (aI v4), none, none]) (st' := [aR q_S, aI (scr G (v4 + 1)), aR 188, aI u0]) (show decode (mC 271) 392 = .ok (.aload_n 0, 1) by decide +kernel) rfl (by show (if q_S = 0 then none else some (_, _)) = _; rw [if_neg (by decide)]) ?_
  refine e_L (L' := [some (aR q_S), some (aR 1), some (aR 188), some (aR 211), some (aI v4), none, none]) (st' := [aI v4, aR q_S, aI (scr G (v4 + 1)), aR 188, aI u0]) (show decode (mC 271) 393 = .ok (.iload 4, 2) by decide +kernel) rfl rfl ?_
  refine e_P (st' := [aI 2, aI v4, aR q_S, aI (scr G (v4 + 1)), aR 188, aI u0]) (show decode (mC 271) 395 = .ok (.iconst 2, 1) by decide +kernel) rfl rfl rfl ?_
  refine e_P (st' := [aI (v4 + 2), aR q_S, aI (scr G (v4 + 1)), aR 188, aI u0]) (show decode (mC 271) 396 = .ok (.iadd, 1) by decide +kernel) rfl rfl rfl ?_
  refine e_sld (show decode (mC 271) 397 = .ok (.iaload, 1) by decide +kernel) s2 s3 ?_
  exact e_V (as := [aR 188, aI (scr G (v4 + 1)), aI (scr G (v4 + 2))]) (rest := [aI u0]) (show decode (mC 271) 398 = .ok (.invokevirtual 49, 3) by decide +kernel) (by decide +kernel) (show (decide ((3 : Nat) = mA 191) && decide (191 < q_law)) = true by decide +kernel) rfl (show (1 : Nat) ≤ 8 by decide) (show (3 : Nat) ≤ mL 191 by decide +kernel) rfl (sh_ok hG (by decide +kernel)) m4
theorem b271_401 (hG : Shp G) {v4 u0 u1 : Int}
    (s0 : -2147483648 ≤ u0 ∧ u0 < 2147483648)
    (s1 : -2147483648 ≤ u1 ∧ u1 < 2147483648)
    (k2 : (u0 = u1) → T (d + 2) 271 1328 [some (aR q_S), some (aR 1), some (aR 188), some (aR 211), some (aI v4), none, none] [] (G, c) Q)
    (z3 : (¬ u0 = u1) → Q (.inl (some (aI 0))) (G, c)) :
    T (d + 2) 271 401 [some (aR q_S), some (aR 1), some (aR 188), some (aR 211), some (aI v4), none, none] [aI u1, aI u0] (G, c) Q := by
  refine e_eq2 (t := 1328) (show decode (mC 271) 401 = .ok (.if_icmp .eq 927, 3) by decide +kernel) (by decide) s0 s1 (fun p1 => ?_) (fun p1 => ?_)
  · exact (k2 p1)
  · refine e_P (st' := [aI 0]) (show decode (mC 271) 404 = .ok (.iconst 0, 1) by decide +kernel) rfl rfl rfl ?_
    exact e_zret (show decode (mC 271) 405 = .ok (.ireturn, 1) by decide +kernel) rfl (by decide) (z3 p1)
theorem b271_406 (hG : Shp G) {v4 : Int}
    (s0 : 0 ≤ (v4 + 1))
    (s1 : (v4 + 1) < (G.2.2.2.2.1 : Int))
    (s2 : 0 ≤ (v4 + 2))
    (s3 : (v4 + 2) < (G.2.2.2.2.1 : Int))
    (m4 : T d 121 0 (q_ent 121 [aR 1, aI (scr G (v4 + 1)), aI (scr G (v4 + 2))]) [] (G, c) (QX (fun r h1 => ∃ c1, ∃ v : Int, r = some (aI v) ∧ I32 v ∧ h1 = (G, c1) ∧ T (d + 2) 271 423 [some (aR q_S), some (aR 1), some (aR 188), some (aR 211), some (aI v4), none, none] [aI 0] (G, q_up c1 211 0 v) Q) (fun h1 => ∃ c1, h1 = (G, c1) ∧ T (d + 2) 271 423 [some (aR q_S), some (aR 1), some (aR 188), some (aR 211), some (aI v4), none, none] [aI 1] (G, q_up c1 0 0 (c1 0 0 + 1)) Q))) :
    T (d + 2) 271 406 [some (aR q_S), some (aR 1), some (aR 188), some (aR 211), some (aI v4), none, none] [] (G, c) Q := by
  refine e_L (L' := [some (aR q_S), some (aR 1), some (aR 188), some (aR 211), some (aI v4), none, none]) (st' := [aR 1]) (show decode (mC 271) 406 = .ok (.aload_n 1, 1) by decide +kernel) rfl (by show (if 1 = 0 then none else some (_, _)) = _; rw [if_neg (by decide)]) ?_
  refine e_L (L' := [some (aR q_S), some (aR 1), some (aR 188), some (aR 211), some (aI v4), none, none]) (st' := [aR q_S, aR 1]) (show decode (mC 271) 407 = .ok (.aload_n 0, 1) by decide +kernel) rfl (by show (if q_S = 0 then none else some (_, _)) = _; rw [if_neg (by decide)]) ?_
  refine e_L (L' := [some (aR q_S), some (aR 1), some (aR 188), some (aR 211), some (aI v4), none, none]) (st' := [aI v4, aR q_S, aR 1]) (show decode (mC 271) 408 = .ok (.iload 4, 2) by decide +kernel) rfl rfl ?_
  refine e_P (st' := [aI 1, aI v4, aR q_S, aR 1]) (show decode (mC 271) 410 = .ok (.iconst 1, 1) by decide +kernel) rfl rfl rfl ?_
  refine e_P (st' := [aI (v4 + 1), aR q_S, aR 1]) (show decode (mC 271) 411 = .ok (.iadd, 1) by decide +kernel) rfl rfl rfl ?_
  refine e_sld (show decode (mC 271) 412 = .ok (.iaload, 1) by decide +kernel) s0 s1 ?_
  refine e_L (L' := [some (aR q_S), some (aR 1), some (aR 188), some (aR 211), some (aI v4), none, none]) (st' := [aR q_S, aI (scr G (v4 + 1)), aR 1]) (show decode (mC 271) 413 = .ok (.aload_n 0, 1) by decide +kernel) rfl (by show (if q_S = 0 then none else some (_, _)) = _; rw [if_neg (by decide)]) ?_
  refine e_L (L' := [some (aR q_S), some (aR 1), some (aR 188), some (aR 211), some (aI v4), none, none]) (st' := [aI v4, aR q_S, aI (scr G (v4 + 1)), aR 1]) (show decode (mC 271) 414 = .ok (.iload 4, 2) by decide +kernel) rfl rfl ?_
  refine e_P (st' := [aI 2, aI v4, aR q_S, aI (scr G (v4 + 1)), aR 1]) (show decode (mC 271) 416 = .ok (.iconst 2, 1) by decide +kernel) rfl rfl rfl ?_
  refine e_P (st' := [aI (v4 + 2), aR q_S, aI (scr G (v4 + 1)), aR 1]) (show decode (mC 271) 417 = .ok (.iadd, 1) by decide +kernel) rfl rfl rfl ?_
  refine e_sld (show decode (mC 271) 418 = .ok (.iaload, 1) by decide +kernel) s2 s3 ?_
  refine e_L (L' := [some (aR q_S), some (aR 1), some (aR 188), some (aR 211), some (aI v4), none, none]) (st' := [aR 211, aI (scr G (v4 + 2)), aI (scr G (v4 + 1)), aR 1]) (show decode (mC 271) 419 = .ok (.aload_n 3, 1) by decide +kernel) rfl (by show (if 211 = 0 then none else some (_, _)) = _; rw [if_neg (by decide)]) ?_
  exact e_XL (as := [aI (scr G (v4 + 1)), aI (scr G (v4 + 2))]) hG (show decode (mC 271) 420 = .ok (.invokestatic 50, 3) by decide +kernel) (by decide +kernel) (show (decide ((3 : Nat) = mA 121) && decide (121 < q_law)) = true by decide +kernel) rfl rfl (show (3 : Nat) ≤ mL 121 by decide +kernel) m4
theorem b271_423 (hG : Shp G) {v4 u0 : Int}
    (s0 : 0 ≤ (v4 + 1))
    (s1 : (v4 + 1) < (G.2.2.2.2.1 : Int))
    (s2 : 0 ≤ (v4 + 2))
    (s3 : (v4 + 2) < (G.2.2.2.2.1 : Int))
    (m4 : TM (d + 1) 194 [aR 188, aI (scr G (v4 + 1)), aI (scr G (v4 + 2))] (G, c) (fun r h' => T (d + 2) 271 441 [some (aR q_S), some (aR 1), some (aR 188), some (aR 211), some (aI v4), some (aI u0), none] (r.toList ++ []) h' Q)) :
    T (d + 2) 271 423 [some (aR q_S), some (aR 1), some (aR 188), some (aR 211), some (aI v4), none, none] [aI u0] (G, c) Q := by
  refine e_L (L' := [some (aR q_S), some (aR 1), some (aR 188), some (aR 211), some (aI v4), some (aI u0), none]) (st' := []) (show decode (mC 271) 423 = .ok (.istore 5, 2) by decide +kernel) rfl rfl ?_
  refine e_L (L' := [some (aR q_S), some (aR 1), some (aR 188), some (aR 211), some (aI v4), some (aI u0), none]) (st' := [aR 188]) (show decode (mC 271) 425 = .ok (.aload_n 2, 1) by decide +kernel) rfl (by show (if 188 = 0 then none else some (_, _)) = _; rw [if_neg (by decide)]) ?_
  refine e_L (L' := [some (aR q_S), some (aR 1), some (aR 188), some (aR 211), some (aI v4), some (aI u0), none]) (st' := [aR q_S, aR 188]) (show decode (mC 271) 426 = .ok (.aload_n 0, 1) by decide +kernel) rfl (by show (if q_S = 0 then none else some (_, _)) = _; rw [if_neg (by decide)]) ?_
  refine e_L (L' := [some (aR q_S), some (aR 1), some (aR 188), some (aR 211), some (aI v4), some (aI u0), none]) (st' := [aI v4, aR q_S, aR 188]) (show decode (mC 271) 427 = .ok (.iload 4, 2) by decide +kernel) rfl rfl ?_
  refine e_P (st' := [aI 1, aI v4, aR q_S, aR 188]) (show decode (mC 271) 429 = .ok (.iconst 1, 1) by decide +kernel) rfl rfl rfl ?_
  refine e_P (st' := [aI (v4 + 1), aR q_S, aR 188]) (show decode (mC 271) 430 = .ok (.iadd, 1) by decide +kernel) rfl rfl rfl ?_
  refine e_sld (show decode (mC 271) 431 = .ok (.iaload, 1) by decide +kernel) s0 s1 ?_
  refine e_L (L' := [some (aR q_S), some (aR 1), some (aR 188), some (aR 211), some (aI v4), some (aI u0), none]) (st' := [aR q_S, aI (scr G (v4 + 1)), aR 188]) (show decode (mC 271) 432 = .ok (.aload_n 0, 1) by decide +kernel) rfl (by show (if q_S = 0 then none else some (_, _)) = _; rw [if_neg (by decide)]) ?_
  refine e_L (L' := [some (aR q_S), some (aR 1), some (aR 188), some (aR 211), some (aI v4), some (aI u0), none]) (st' := [aI v4, aR q_S, aI (scr G (v4 + 1)), aR 188]) (show decode (mC 271) 433 = .ok (.iload 4, 2) by decide +kernel) rfl rfl ?_
  refine e_P (st' := [aI 2, aI v4, aR q_S, aI (scr G (v4 + 1)), aR 188]) (show decode (mC 271) 435 = .ok (.iconst 2, 1) by decide +kernel) rfl rfl rfl ?_
  refine e_P (st' := [aI (v4 + 2), aR q_S, aI (scr G (v4 + 1)), aR 188]) (show decode (mC 271) 436 = .ok (.iadd, 1) by decide +kernel) rfl rfl rfl ?_
  refine e_sld (show decode (mC 271) 437 = .ok (.iaload, 1) by decide +kernel) s2 s3 ?_
  exact e_V (as := [aR 188, aI (scr G (v4 + 1)), aI (scr G (v4 + 2))]) (rest := []) (show decode (mC 271) 438 = .ok (.invokevirtual 55, 3) by decide +kernel) (by decide +kernel) (show (decide ((3 : Nat) = mA 194) && decide (194 < q_law)) = true by decide +kernel) rfl (show (0 : Nat) ≤ 8 by decide) (show (3 : Nat) ≤ mL 194 by decide +kernel) rfl (sh_ok hG (by decide +kernel)) m4
theorem b271_441 (hG : Shp G) {v4 v5 u0 : Int}
    (m0 : TM (d + 1) 158 [aR 188] (G, c) (fun r h' => T (d + 2) 271 447 [some (aR q_S), some (aR 1), some (aR 188), some (aR 211), some (aI v4), some (aI v5), some (aI u0)] (r.toList ++ []) h' Q)) :
    T (d + 2) 271 441 [some (aR q_S), some (aR 1), some (aR 188), some (aR 211), some (aI v4), some (aI v5), none] [aI u0] (G, c) Q := by
  refine e_L (L' := [some (aR q_S), some (aR 1), some (aR 188), some (aR 211), some (aI v4), some (aI v5), some (aI u0)]) (st' := []) (show decode (mC 271) 441 = .ok (.istore 6, 2) by decide +kernel) rfl rfl ?_
  refine e_L (L' := [some (aR q_S), some (aR 1), some (aR 188), some (aR 211), some (aI v4), some (aI v5), some (aI u0)]) (st' := [aR 188]) (show decode (mC 271) 443 = .ok (.aload_n 2, 1) by decide +kernel) rfl (by show (if 188 = 0 then none else some (_, _)) = _; rw [if_neg (by decide)]) ?_
  exact e_V (as := [aR 188]) (rest := []) (show decode (mC 271) 444 = .ok (.invokevirtual 56, 3) by decide +kernel) (by decide +kernel) (show (decide ((1 : Nat) = mA 158) && decide (158 < q_law)) = true by decide +kernel) rfl (show (0 : Nat) ≤ 8 by decide) (show (1 : Nat) ≤ mL 158 by decide +kernel) rfl (sh_ok hG (by decide +kernel)) m0
theorem b271_447 (hG : Shp G) {v4 v5 v6 u0 x1 : Int} (hQ : ∀ o o' h', q_eqo o o' → Q o h' → Q o' h')
    (s0 : -2147483648 ≤ u0 ∧ u0 < 2147483648)
    (s1 : -2147483648 ≤ v5 ∧ v5 < 2147483648)
    (k2 : (u0 = v5) → (¬ v5 = 0) → T (d + 2) 271 1328 [some (aR q_S), some (aR 1), some (aR 188), some (aR 211), some (aI v4), none, none] [] (G, c) Q)
    (ex1 : c 211 0 = x1)
    (s4 : (u0 = v5) → (v5 = 0) → -2147483648 ≤ v6 ∧ v6 < 2147483648)
    (s5 : (u0 = v5) → (v5 = 0) → -9223372036854775808 ≤ x1 ∧ x1 < 9223372036854775808)
    (s6 : (u0 = v5) → (v5 = 0) → -9223372036854775808 ≤ v6 ∧ v6 < 9223372036854775808)
    (s7 : (u0 = v5) → (v5 = 0) → -2147483648 ≤ (if x1 < v6 then (-1 : Int) else if x1 = v6 then 0 else 1) ∧ (if x1 < v6 then (-1 : Int) else if x1 = v6 then 0 else 1) < 2147483648)
    (k8 : (u0 = v5) → (v5 = 0) → ((if x1 < v6 then (-1 : Int) else if x1 = v6 then 0 else 1) = 0) → T (d + 2) 271 1328 [some (aR q_S), some (aR 1), some (aR 188), some (aR 211), some (aI v4), none, none] [] (G, c) Q)
    (z9 : (u0 = v5) → (v5 = 0) → (¬ (if x1 < v6 then (-1 : Int) else if x1 = v6 then 0 else 1) = 0) → Q (.inl (some (aI 0))) (G, c))
    (z10 : (¬ u0 = v5) → Q (.inl (some (aI 0))) (G, c)) :
    T (d + 2) 271 447 [some (aR q_S), some (aR 1), some (aR 188), some (aR 211), some (aI v4), some (aI v5), some (aI v6)] [aI u0] (G, c) Q := by
  refine e_L (L' := [some (aR q_S), some (aR 1), some (aR 188), some (aR 211), some (aI v4), some (aI v5), some (aI v6)]) (st' := [aI v5, aI u0]) (show decode (mC 271) 447 = .ok (.iload 5, 2) by decide +kernel) rfl rfl ?_
  refine e_eq2 (t := 454) (show decode (mC 271) 449 = .ok (.if_icmp .eq 5, 3) by decide +kernel) (by decide) s0 s1 (fun p1 => ?_) (fun p1 => ?_)
  · refine e_L (L' := [some (aR q_S), some (aR 1), some (aR 188), some (aR 211), some (aI v4), some (aI v5), some (aI v6)]) (st' := [aI v5]) (show decode (mC 271) 454 = .ok (.iload 5, 2) by decide +kernel) rfl rfl ?_
    refine e_ne1 (t := 471) (show decode (mC 271) 456 = .ok (.ifCond .ne 15, 3) by decide +kernel) (by decide) s1 (fun p2 => ?_) (fun p2 => ?_)
    · refine e_go (t := 1328) (show decode (mC 271) 471 = .ok (.goto 857, 3) by decide +kernel) (by decide) ?_
      exact T_le hQ (leS (leS (leS (leS (leS (leN (leN leE))))))) (k2 p1 p2)
    · refine e_L (L' := [some (aR q_S), some (aR 1), some (aR 188), some (aR 211), some (aI v4), some (aI v5), some (aI v6)]) (st' := [aR 211]) (show decode (mC 271) 459 = .ok (.aload_n 3, 1) by decide +kernel) rfl (by show (if 211 = 0 then none else some (_, _)) = _; rw [if_neg (by decide)]) ?_
      refine e_P (st' := [aI 0, aR 211]) (show decode (mC 271) 460 = .ok (.iconst 0, 1) by decide +kernel) rfl rfl rfl ?_
      refine e_laldx (n := 1) (show decode (mC 271) 461 = .ok (.laload, 1) by decide +kernel) (sh_ok hG (by decide +kernel)) (sh_ln hG (by decide +kernel)) (by decide) (by decide) (by decide) ex1 ?_
      refine e_L (L' := [some (aR q_S), some (aR 1), some (aR 188), some (aR 211), some (aI v4), some (aI v5), some (aI v6)]) (st' := [aI v6, aL x1]) (show decode (mC 271) 462 = .ok (.iload 6, 2) by decide +kernel) rfl rfl ?_
      refine e_i2l (show decode (mC 271) 464 = .ok (.i2l, 1) by decide +kernel) (s4 p1 p2) ?_
      refine e_lcmp (show decode (mC 271) 465 = .ok (.lcmp, 1) by decide +kernel) (s5 p1 p2) (s6 p1 p2) ?_
      refine e_eq1 (t := 471) (show decode (mC 271) 466 = .ok (.ifCond .eq 5, 3) by decide +kernel) (by decide) (s7 p1 p2) (fun p3 => ?_) (fun p3 => ?_)
      · refine e_go (t := 1328) (show decode (mC 271) 471 = .ok (.goto 857, 3) by decide +kernel) (by decide) ?_
        exact T_le hQ (leS (leS (leS (leS (leS (leN (leN leE))))))) (k8 p1 p2 p3)
      · refine e_P (st' := [aI 0]) (show decode (mC 271) 469 = .ok (.iconst 0, 1) by decide +kernel) rfl rfl rfl ?_
        exact e_zret (show decode (mC 271) 470 = .ok (.ireturn, 1) by decide +kernel) rfl (by decide) (z9 p1 p2 p3)
  · refine e_P (st' := [aI 0]) (show decode (mC 271) 452 = .ok (.iconst 0, 1) by decide +kernel) rfl rfl rfl ?_
    exact e_zret (show decode (mC 271) 453 = .ok (.ireturn, 1) by decide +kernel) rfl (by decide) (z10 p1)
theorem b271_474 (hG : Shp G) {v4 : Int}
    (s0 : 0 ≤ (v4 + 1))
    (s1 : (v4 + 1) < (G.2.2.2.2.1 : Int))
    (s2 : 0 ≤ (v4 + 2))
    (s3 : (v4 + 2) < (G.2.2.2.2.1 : Int))
    (m4 : TM (d + 1) 122 [aR 1, aI (scr G (v4 + 1)), aI (scr G (v4 + 2))] (G, c) (fun r h' => T (d + 2) 271 490 [some (aR q_S), some (aR 1), some (aR 188), some (aR 211), some (aI v4), none, none] (r.toList ++ []) h' Q)) :
    T (d + 2) 271 474 [some (aR q_S), some (aR 1), some (aR 188), some (aR 211), some (aI v4), none, none] [] (G, c) Q := by
  refine e_L (L' := [some (aR q_S), some (aR 1), some (aR 188), some (aR 211), some (aI v4), none, none]) (st' := [aR 1]) (show decode (mC 271) 474 = .ok (.aload_n 1, 1) by decide +kernel) rfl (by show (if 1 = 0 then none else some (_, _)) = _; rw [if_neg (by decide)]) ?_
  refine e_L (L' := [some (aR q_S), some (aR 1), some (aR 188), some (aR 211), some (aI v4), none, none]) (st' := [aR q_S, aR 1]) (show decode (mC 271) 475 = .ok (.aload_n 0, 1) by decide +kernel) rfl (by show (if q_S = 0 then none else some (_, _)) = _; rw [if_neg (by decide)]) ?_
  refine e_L (L' := [some (aR q_S), some (aR 1), some (aR 188), some (aR 211), some (aI v4), none, none]) (st' := [aI v4, aR q_S, aR 1]) (show decode (mC 271) 476 = .ok (.iload 4, 2) by decide +kernel) rfl rfl ?_
  refine e_P (st' := [aI 1, aI v4, aR q_S, aR 1]) (show decode (mC 271) 478 = .ok (.iconst 1, 1) by decide +kernel) rfl rfl rfl ?_
  refine e_P (st' := [aI (v4 + 1), aR q_S, aR 1]) (show decode (mC 271) 479 = .ok (.iadd, 1) by decide +kernel) rfl rfl rfl ?_
  refine e_sld (show decode (mC 271) 480 = .ok (.iaload, 1) by decide +kernel) s0 s1 ?_
  refine e_L (L' := [some (aR q_S), some (aR 1), some (aR 188), some (aR 211), some (aI v4), none, none]) (st' := [aR q_S, aI (scr G (v4 + 1)), aR 1]) (show decode (mC 271) 481 = .ok (.aload_n 0, 1) by decide +kernel) rfl (by show (if q_S = 0 then none else some (_, _)) = _; rw [if_neg (by decide)]) ?_
  refine e_L (L' := [some (aR q_S), some (aR 1), some (aR 188), some (aR 211), some (aI v4), none, none]) (st' := [aI v4, aR q_S, aI (scr G (v4 + 1)), aR 1]) (show decode (mC 271) 482 = .ok (.iload 4, 2) by decide +kernel) rfl rfl ?_
  refine e_P (st' := [aI 2, aI v4, aR q_S, aI (scr G (v4 + 1)), aR 1]) (show decode (mC 271) 484 = .ok (.iconst 2, 1) by decide +kernel) rfl rfl rfl ?_
  refine e_P (st' := [aI (v4 + 2), aR q_S, aI (scr G (v4 + 1)), aR 1]) (show decode (mC 271) 485 = .ok (.iadd, 1) by decide +kernel) rfl rfl rfl ?_
  refine e_sld (show decode (mC 271) 486 = .ok (.iaload, 1) by decide +kernel) s2 s3 ?_
  exact e_V (as := [aR 1, aI (scr G (v4 + 1)), aI (scr G (v4 + 2))]) (rest := []) (show decode (mC 271) 487 = .ok (.invokevirtual 59, 3) by decide +kernel) (by decide +kernel) (show (decide ((3 : Nat) = mA 122) && decide (122 < q_law)) = true by decide +kernel) rfl (show (0 : Nat) ≤ 8 by decide) (show (3 : Nat) ≤ mL 122 by decide +kernel) rfl (sh_ok hG (by decide +kernel)) m4
theorem b271_490 (hG : Shp G) {v4 u0 : Int}
    (s0 : 0 ≤ (v4 + 1))
    (s1 : (v4 + 1) < (G.2.2.2.2.1 : Int))
    (s2 : 0 ≤ (v4 + 2))
    (s3 : (v4 + 2) < (G.2.2.2.2.1 : Int))
    (m4 : TM (d + 1) 195 [aR 188, aI (scr G (v4 + 1)), aI (scr G (v4 + 2))] (G, c) (fun r h' => T (d + 2) 271 506 [some (aR q_S), some (aR 1), some (aR 188), some (aR 211), some (aI v4), none, none] (r.toList ++ [aI u0]) h' Q)) :
    T (d + 2) 271 490 [some (aR q_S), some (aR 1), some (aR 188), some (aR 211), some (aI v4), none, none] [aI u0] (G, c) Q := by
  refine e_L (L' := [some (aR q_S), some (aR 1), some (aR 188), some (aR 211), some (aI v4), none, none]) (st' := [aR 188, aI u0]) (show decode (mC 271) 490 = .ok (.aload_n 2, 1) by decide +kernel) rfl (by show (if 188 = 0 then none else some (_, _)) = _; rw [if_neg (by decide)]) ?_
  refine e_L (L' := [some (aR q_S), some (aR 1), some (aR 188), some (aR 211), some (aI v4), none, none]) (st' := [aR q_S, aR 188, aI u0]) (show decode (mC 271) 491 = .ok (.aload_n 0, 1) by decide +kernel) rfl (by show (if q_S = 0 then none else some (_, _)) = _; rw [if_neg (by decide)]) ?_
  refine e_L (L' := [some (aR q_S), some (aR 1), some (aR 188), some (aR 211), some (aI v4), none, none]) (st' := [aI v4, aR q_S, aR 188, aI u0]) (show decode (mC 271) 492 = .ok (.iload 4, 2) by decide +kernel) rfl rfl ?_
  refine e_P (st' := [aI 1, aI v4, aR q_S, aR 188, aI u0]) (show decode (mC 271) 494 = .ok (.iconst 1, 1) by decide +kernel) rfl rfl rfl ?_
  refine e_P (st' := [aI (v4 + 1), aR q_S, aR 188, aI u0]) (show decode (mC 271) 495 = .ok (.iadd, 1) by decide +kernel) rfl rfl rfl ?_
  refine e_sld (show decode (mC 271) 496 = .ok (.iaload, 1) by decide +kernel) s0 s1 ?_
  refine e_L (L' := [some (aR q_S), some (aR 1), some (aR 188), some (aR 211), some (aI v4), none, none]) (st' := [aR q_S, aI (scr G (v4 + 1)), aR 188, aI u0]) (show decode (mC 271) 497 = .ok (.aload_n 0, 1) by decide +kernel) rfl (by show (if q_S = 0 then none else some (_, _)) = _; rw [if_neg (by decide)]) ?_
  refine e_L (L' := [some (aR q_S), some (aR 1), some (aR 188), some (aR 211), some (aI v4), none, none]) (st' := [aI v4, aR q_S, aI (scr G (v4 + 1)), aR 188, aI u0]) (show decode (mC 271) 498 = .ok (.iload 4, 2) by decide +kernel) rfl rfl ?_
  refine e_P (st' := [aI 2, aI v4, aR q_S, aI (scr G (v4 + 1)), aR 188, aI u0]) (show decode (mC 271) 500 = .ok (.iconst 2, 1) by decide +kernel) rfl rfl rfl ?_
  refine e_P (st' := [aI (v4 + 2), aR q_S, aI (scr G (v4 + 1)), aR 188, aI u0]) (show decode (mC 271) 501 = .ok (.iadd, 1) by decide +kernel) rfl rfl rfl ?_
  refine e_sld (show decode (mC 271) 502 = .ok (.iaload, 1) by decide +kernel) s2 s3 ?_
  exact e_V (as := [aR 188, aI (scr G (v4 + 1)), aI (scr G (v4 + 2))]) (rest := [aI u0]) (show decode (mC 271) 503 = .ok (.invokevirtual 62, 3) by decide +kernel) (by decide +kernel) (show (decide ((3 : Nat) = mA 195) && decide (195 < q_law)) = true by decide +kernel) rfl (show (1 : Nat) ≤ 8 by decide) (show (3 : Nat) ≤ mL 195 by decide +kernel) rfl (sh_ok hG (by decide +kernel)) m4
theorem b271_506 (hG : Shp G) {v4 u0 u1 : Int}
    (s0 : -2147483648 ≤ u0 ∧ u0 < 2147483648)
    (s1 : -2147483648 ≤ u1 ∧ u1 < 2147483648)
    (k2 : (u0 = u1) → T (d + 2) 271 1328 [some (aR q_S), some (aR 1), some (aR 188), some (aR 211), some (aI v4), none, none] [] (G, c) Q)
    (z3 : (¬ u0 = u1) → Q (.inl (some (aI 0))) (G, c)) :
    T (d + 2) 271 506 [some (aR q_S), some (aR 1), some (aR 188), some (aR 211), some (aI v4), none, none] [aI u1, aI u0] (G, c) Q := by
  refine e_eq2 (t := 1328) (show decode (mC 271) 506 = .ok (.if_icmp .eq 822, 3) by decide +kernel) (by decide) s0 s1 (fun p1 => ?_) (fun p1 => ?_)
  · exact (k2 p1)
  · refine e_P (st' := [aI 0]) (show decode (mC 271) 509 = .ok (.iconst 0, 1) by decide +kernel) rfl rfl rfl ?_
    exact e_zret (show decode (mC 271) 510 = .ok (.ireturn, 1) by decide +kernel) rfl (by decide) (z3 p1)
theorem b271_511 (hG : Shp G) {v4 : Int}
    (s0 : 0 ≤ (v4 + 1))
    (s1 : (v4 + 1) < (G.2.2.2.2.1 : Int))
    (m2 : TM (d + 1) 123 [aR 1, aI (scr G (v4 + 1))] (G, c) (fun r h' => T (d + 2) 271 521 [some (aR q_S), some (aR 1), some (aR 188), some (aR 211), some (aI v4), none, none] (r.toList ++ []) h' Q)) :
    T (d + 2) 271 511 [some (aR q_S), some (aR 1), some (aR 188), some (aR 211), some (aI v4), none, none] [] (G, c) Q := by
  refine e_L (L' := [some (aR q_S), some (aR 1), some (aR 188), some (aR 211), some (aI v4), none, none]) (st' := [aR 1]) (show decode (mC 271) 511 = .ok (.aload_n 1, 1) by decide +kernel) rfl (by show (if 1 = 0 then none else some (_, _)) = _; rw [if_neg (by decide)]) ?_
  refine e_L (L' := [some (aR q_S), some (aR 1), some (aR 188), some (aR 211), some (aI v4), none, none]) (st' := [aR q_S, aR 1]) (show decode (mC 271) 512 = .ok (.aload_n 0, 1) by decide +kernel) rfl (by show (if q_S = 0 then none else some (_, _)) = _; rw [if_neg (by decide)]) ?_
  refine e_L (L' := [some (aR q_S), some (aR 1), some (aR 188), some (aR 211), some (aI v4), none, none]) (st' := [aI v4, aR q_S, aR 1]) (show decode (mC 271) 513 = .ok (.iload 4, 2) by decide +kernel) rfl rfl ?_
  refine e_P (st' := [aI 1, aI v4, aR q_S, aR 1]) (show decode (mC 271) 515 = .ok (.iconst 1, 1) by decide +kernel) rfl rfl rfl ?_
  refine e_P (st' := [aI (v4 + 1), aR q_S, aR 1]) (show decode (mC 271) 516 = .ok (.iadd, 1) by decide +kernel) rfl rfl rfl ?_
  refine e_sld (show decode (mC 271) 517 = .ok (.iaload, 1) by decide +kernel) s0 s1 ?_
  exact e_V (as := [aR 1, aI (scr G (v4 + 1))]) (rest := []) (show decode (mC 271) 518 = .ok (.invokevirtual 63, 3) by decide +kernel) (by decide +kernel) (show (decide ((2 : Nat) = mA 123) && decide (123 < q_law)) = true by decide +kernel) rfl (show (0 : Nat) ≤ 8 by decide) (show (2 : Nat) ≤ mL 123 by decide +kernel) rfl (sh_ok hG (by decide +kernel)) m2
theorem b271_521 (hG : Shp G) {v4 u0 : Int}
    (s0 : 0 ≤ (v4 + 1))
    (s1 : (v4 + 1) < (G.2.2.2.2.1 : Int))
    (m2 : TM (d + 1) 197 [aR 188, aI (scr G (v4 + 1))] (G, c) (fun r h' => T (d + 2) 271 531 [some (aR q_S), some (aR 1), some (aR 188), some (aR 211), some (aI v4), none, none] (r.toList ++ [aI u0]) h' Q)) :
    T (d + 2) 271 521 [some (aR q_S), some (aR 1), some (aR 188), some (aR 211), some (aI v4), none, none] [aI u0] (G, c) Q := by
  refine e_L (L' := [some (aR q_S), some (aR 1), some (aR 188), some (aR 211), some (aI v4), none, none]) (st' := [aR 188, aI u0]) (show decode (mC 271) 521 = .ok (.aload_n 2, 1) by decide +kernel) rfl (by show (if 188 = 0 then none else some (_, _)) = _; rw [if_neg (by decide)]) ?_
  refine e_L (L' := [some (aR q_S), some (aR 1), some (aR 188), some (aR 211), some (aI v4), none, none]) (st' := [aR q_S, aR 188, aI u0]) (show decode (mC 271) 522 = .ok (.aload_n 0, 1) by decide +kernel) rfl (by show (if q_S = 0 then none else some (_, _)) = _; rw [if_neg (by decide)]) ?_
  refine e_L (L' := [some (aR q_S), some (aR 1), some (aR 188), some (aR 211), some (aI v4), none, none]) (st' := [aI v4, aR q_S, aR 188, aI u0]) (show decode (mC 271) 523 = .ok (.iload 4, 2) by decide +kernel) rfl rfl ?_
  refine e_P (st' := [aI 1, aI v4, aR q_S, aR 188, aI u0]) (show decode (mC 271) 525 = .ok (.iconst 1, 1) by decide +kernel) rfl rfl rfl ?_
  refine e_P (st' := [aI (v4 + 1), aR q_S, aR 188, aI u0]) (show decode (mC 271) 526 = .ok (.iadd, 1) by decide +kernel) rfl rfl rfl ?_
  refine e_sld (show decode (mC 271) 527 = .ok (.iaload, 1) by decide +kernel) s0 s1 ?_
  exact e_V (as := [aR 188, aI (scr G (v4 + 1))]) (rest := [aI u0]) (show decode (mC 271) 528 = .ok (.invokevirtual 66, 3) by decide +kernel) (by decide +kernel) (show (decide ((2 : Nat) = mA 197) && decide (197 < q_law)) = true by decide +kernel) rfl (show (1 : Nat) ≤ 8 by decide) (show (2 : Nat) ≤ mL 197 by decide +kernel) rfl (sh_ok hG (by decide +kernel)) m2
theorem b271_531 (hG : Shp G) {v4 u0 u1 : Int}
    (s0 : -2147483648 ≤ u0 ∧ u0 < 2147483648)
    (s1 : -2147483648 ≤ u1 ∧ u1 < 2147483648)
    (k2 : (u0 = u1) → T (d + 2) 271 1328 [some (aR q_S), some (aR 1), some (aR 188), some (aR 211), some (aI v4), none, none] [] (G, c) Q)
    (z3 : (¬ u0 = u1) → Q (.inl (some (aI 0))) (G, c)) :
    T (d + 2) 271 531 [some (aR q_S), some (aR 1), some (aR 188), some (aR 211), some (aI v4), none, none] [aI u1, aI u0] (G, c) Q := by
  refine e_eq2 (t := 1328) (show decode (mC 271) 531 = .ok (.if_icmp .eq 797, 3) by decide +kernel) (by decide) s0 s1 (fun p1 => ?_) (fun p1 => ?_)
  · exact (k2 p1)
  · refine e_P (st' := [aI 0]) (show decode (mC 271) 534 = .ok (.iconst 0, 1) by decide +kernel) rfl rfl rfl ?_
    exact e_zret (show decode (mC 271) 535 = .ok (.ireturn, 1) by decide +kernel) rfl (by decide) (z3 p1)
theorem b271_536 (hG : Shp G) {v4 : Int}
    (s0 : 0 ≤ (v4 + 1))
    (s1 : (v4 + 1) < (G.2.2.2.2.1 : Int))
    (s2 : 0 ≤ (v4 + 2))
    (s3 : (v4 + 2) < (G.2.2.2.2.1 : Int))
    (m4 : TM (d + 1) 126 [aR 1, aI (scr G (v4 + 1)), aI (scr G (v4 + 2))] (G, c) (fun r h' => T (d + 2) 271 552 [some (aR q_S), some (aR 1), some (aR 188), some (aR 211), some (aI v4), none, none] (r.toList ++ []) h' Q)) :
    T (d + 2) 271 536 [some (aR q_S), some (aR 1), some (aR 188), some (aR 211), some (aI v4), none, none] [] (G, c) Q := by
  refine e_L (L' := [some (aR q_S), some (aR 1), some (aR 188), some (aR 211), some (aI v4), none, none]) (st' := [aR 1]) (show decode (mC 271) 536 = .ok (.aload_n 1, 1) by decide +kernel) rfl (by show (if 1 = 0 then none else some (_, _)) = _; rw [if_neg (by decide)]) ?_
  refine e_L (L' := [some (aR q_S), some (aR 1), some (aR 188), some (aR 211), some (aI v4), none, none]) (st' := [aR q_S, aR 1]) (show decode (mC 271) 537 = .ok (.aload_n 0, 1) by decide +kernel) rfl (by show (if q_S = 0 then none else some (_, _)) = _; rw [if_neg (by decide)]) ?_
  refine e_L (L' := [some (aR q_S), some (aR 1), some (aR 188), some (aR 211), some (aI v4), none, none]) (st' := [aI v4, aR q_S, aR 1]) (show decode (mC 271) 538 = .ok (.iload 4, 2) by decide +kernel) rfl rfl ?_
  refine e_P (st' := [aI 1, aI v4, aR q_S, aR 1]) (show decode (mC 271) 540 = .ok (.iconst 1, 1) by decide +kernel) rfl rfl rfl ?_
  refine e_P (st' := [aI (v4 + 1), aR q_S, aR 1]) (show decode (mC 271) 541 = .ok (.iadd, 1) by decide +kernel) rfl rfl rfl ?_
  refine e_sld (show decode (mC 271) 542 = .ok (.iaload, 1) by decide +kernel) s0 s1 ?_
  refine e_L (L' := [some (aR q_S), some (aR 1), some (aR 188), some (aR 211), some (aI v4), none, none]) (st' := [aR q_S, aI (scr G (v4 + 1)), aR 1]) (show decode (mC 271) 543 = .ok (.aload_n 0, 1) by decide +kernel) rfl (by show (if q_S = 0 then none else some (_, _)) = _; rw [if_neg (by decide)]) ?_
  refine e_L (L' := [some (aR q_S), some (aR 1), some (aR 188), some (aR 211), some (aI v4), none, none]) (st' := [aI v4, aR q_S, aI (scr G (v4 + 1)), aR 1]) (show decode (mC 271) 544 = .ok (.iload 4, 2) by decide +kernel) rfl rfl ?_
  refine e_P (st' := [aI 2, aI v4, aR q_S, aI (scr G (v4 + 1)), aR 1]) (show decode (mC 271) 546 = .ok (.iconst 2, 1) by decide +kernel) rfl rfl rfl ?_
  refine e_P (st' := [aI (v4 + 2), aR q_S, aI (scr G (v4 + 1)), aR 1]) (show decode (mC 271) 547 = .ok (.iadd, 1) by decide +kernel) rfl rfl rfl ?_
  refine e_sld (show decode (mC 271) 548 = .ok (.iaload, 1) by decide +kernel) s2 s3 ?_
  exact e_V (as := [aR 1, aI (scr G (v4 + 1)), aI (scr G (v4 + 2))]) (rest := []) (show decode (mC 271) 549 = .ok (.invokevirtual 67, 3) by decide +kernel) (by decide +kernel) (show (decide ((3 : Nat) = mA 126) && decide (126 < q_law)) = true by decide +kernel) rfl (show (0 : Nat) ≤ 8 by decide) (show (3 : Nat) ≤ mL 126 by decide +kernel) rfl (sh_ok hG (by decide +kernel)) m4
end SPl1
