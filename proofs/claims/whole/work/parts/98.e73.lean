section SPl1
variable {d : Nat} {G : GG} {c : CC} {Q : OO → HH → Prop}
theorem b268_23 (hG : Shp G) {v4 : Int} (hQ : ∀ o o' h', q_eqo o o' → Q o h' → Q o' h')
    (s0 : -2147483648 ≤ v4 ∧ v4 < 2147483648)
    (s1 : -2147483648 ≤ ((G.2.2.2.2.1 : Int) - 6) ∧ ((G.2.2.2.2.1 : Int) - 6) < 2147483648)
    (k2 : (((G.2.2.2.2.1 : Int) - 6) < v4) → T (d + 2) 268 1334 [none, none, none, none, none, none, none] [] (G, c) Q)
    (s3 : (v4 ≤ ((G.2.2.2.2.1 : Int) - 6)) → 0 ≤ v4)
    (s4 : (v4 ≤ ((G.2.2.2.2.1 : Int) - 6)) → v4 < (G.2.2.2.2.1 : Int))
    (s5 : (v4 ≤ ((G.2.2.2.2.1 : Int) - 6)) → -2147483648 ≤ (q_and (scr G v4) 63) ∧ (q_and (scr G v4) 63) < 2147483648)
    (k6 : (v4 ≤ ((G.2.2.2.2.1 : Int) - 6)) → ((q_and (scr G v4) 63) < 0 ∨ 37 < (q_and (scr G v4) 63)) → T (d + 2) 268 1328 [some (aR q_S), some (aR 1), some (aR 188), some (aR 211), some (aI v4), none, none] [] (G, c) Q)
    (k7 : (v4 ≤ ((G.2.2.2.2.1 : Int) - 6)) → ((q_and (scr G v4) 63) = 0) → T (d + 2) 268 208 [some (aR q_S), some (aR 1), some (aR 188), some (aR 211), some (aI v4), none, none] [] (G, c) Q)
    (k8 : (v4 ≤ ((G.2.2.2.2.1 : Int) - 6)) → ((q_and (scr G v4) 63) = 1) → T (d + 2) 268 281 [some (aR q_S), some (aR 1), some (aR 188), some (aR 211), some (aI v4), none, none] [] (G, c) Q)
    (k9 : (v4 ≤ ((G.2.2.2.2.1 : Int) - 6)) → ((q_and (scr G v4) 63) = 2) → T (d + 2) 268 306 [some (aR q_S), some (aR 1), some (aR 188), some (aR 211), some (aI v4), none, none] [] (G, c) Q)
    (k10 : (v4 ≤ ((G.2.2.2.2.1 : Int) - 6)) → ((q_and (scr G v4) 63) = 3) → T (d + 2) 268 319 [some (aR q_S), some (aR 1), some (aR 188), some (aR 211), some (aI v4), none, none] [] (G, c) Q)
    (k11 : (v4 ≤ ((G.2.2.2.2.1 : Int) - 6)) → ((q_and (scr G v4) 63) = 4) → T (d + 2) 268 332 [some (aR q_S), some (aR 1), some (aR 188), some (aR 211), some (aI v4), none, none] [] (G, c) Q)
    (k12 : (v4 ≤ ((G.2.2.2.2.1 : Int) - 6)) → ((q_and (scr G v4) 63) = 5) → T (d + 2) 268 369 [some (aR q_S), some (aR 1), some (aR 188), some (aR 211), some (aI v4), none, none] [] (G, c) Q)
    (k13 : (v4 ≤ ((G.2.2.2.2.1 : Int) - 6)) → ((q_and (scr G v4) 63) = 6) → T (d + 2) 268 406 [some (aR q_S), some (aR 1), some (aR 188), some (aR 211), some (aI v4), none, none] [] (G, c) Q)
    (k14 : (v4 ≤ ((G.2.2.2.2.1 : Int) - 6)) → ((q_and (scr G v4) 63) = 7) → T (d + 2) 268 474 [some (aR q_S), some (aR 1), some (aR 188), some (aR 211), some (aI v4), none, none] [] (G, c) Q)
    (k15 : (v4 ≤ ((G.2.2.2.2.1 : Int) - 6)) → ((q_and (scr G v4) 63) = 8) → T (d + 2) 268 511 [some (aR q_S), some (aR 1), some (aR 188), some (aR 211), some (aI v4), none, none] [] (G, c) Q)
    (k16 : (v4 ≤ ((G.2.2.2.2.1 : Int) - 6)) → ((q_and (scr G v4) 63) = 9) → T (d + 2) 268 536 [some (aR q_S), some (aR 1), some (aR 188), some (aR 211), some (aI v4), none, none] [] (G, c) Q)
    (k17 : (v4 ≤ ((G.2.2.2.2.1 : Int) - 6)) → ((q_and (scr G v4) 63) = 10) → T (d + 2) 268 573 [some (aR q_S), some (aR 1), some (aR 188), some (aR 211), some (aI v4), none, none] [] (G, c) Q)
    (k18 : (v4 ≤ ((G.2.2.2.2.1 : Int) - 6)) → ((q_and (scr G v4) 63) = 11) → T (d + 2) 268 610 [some (aR q_S), some (aR 1), some (aR 188), some (aR 211), some (aI v4), none, none] [] (G, c) Q)
    (k19 : (v4 ≤ ((G.2.2.2.2.1 : Int) - 6)) → ((q_and (scr G v4) 63) = 12) → T (d + 2) 268 635 [some (aR q_S), some (aR 1), some (aR 188), some (aR 211), some (aI v4), none, none] [] (G, c) Q)
    (k20 : (v4 ≤ ((G.2.2.2.2.1 : Int) - 6)) → ((q_and (scr G v4) 63) = 13) → T (d + 2) 268 660 [some (aR q_S), some (aR 1), some (aR 188), some (aR 211), some (aI v4), none, none] [] (G, c) Q)
    (k21 : (v4 ≤ ((G.2.2.2.2.1 : Int) - 6)) → ((q_and (scr G v4) 63) = 14) → T (d + 2) 268 697 [some (aR q_S), some (aR 1), some (aR 188), some (aR 211), some (aI v4), none, none] [] (G, c) Q)
    (k22 : (v4 ≤ ((G.2.2.2.2.1 : Int) - 6)) → ((q_and (scr G v4) 63) = 15) → T (d + 2) 268 710 [some (aR q_S), some (aR 1), some (aR 188), some (aR 211), some (aI v4), none, none] [] (G, c) Q)
    (k23 : (v4 ≤ ((G.2.2.2.2.1 : Int) - 6)) → ((q_and (scr G v4) 63) = 16) → T (d + 2) 268 735 [some (aR q_S), some (aR 1), some (aR 188), some (aR 211), some (aI v4), none, none] [] (G, c) Q)
    (k24 : (v4 ≤ ((G.2.2.2.2.1 : Int) - 6)) → ((q_and (scr G v4) 63) = 17) → T (d + 2) 268 760 [some (aR q_S), some (aR 1), some (aR 188), some (aR 211), some (aI v4), none, none] [] (G, c) Q)
    (k25 : (v4 ≤ ((G.2.2.2.2.1 : Int) - 6)) → ((q_and (scr G v4) 63) = 18) → T (d + 2) 268 785 [some (aR q_S), some (aR 1), some (aR 188), some (aR 211), some (aI v4), none, none] [] (G, c) Q)
    (k26 : (v4 ≤ ((G.2.2.2.2.1 : Int) - 6)) → ((q_and (scr G v4) 63) = 19) → T (d + 2) 268 841 [some (aR q_S), some (aR 1), some (aR 188), some (aR 211), some (aI v4), none, none] [] (G, c) Q)
    (k27 : (v4 ≤ ((G.2.2.2.2.1 : Int) - 6)) → ((q_and (scr G v4) 63) = 20) → T (d + 2) 268 854 [some (aR q_S), some (aR 1), some (aR 188), some (aR 211), some (aI v4), none, none] [] (G, c) Q)
    (k28 : (v4 ≤ ((G.2.2.2.2.1 : Int) - 6)) → ((q_and (scr G v4) 63) = 21) → T (d + 2) 268 867 [some (aR q_S), some (aR 1), some (aR 188), some (aR 211), some (aI v4), none, none] [] (G, c) Q)
    (k29 : (v4 ≤ ((G.2.2.2.2.1 : Int) - 6)) → ((q_and (scr G v4) 63) = 22) → T (d + 2) 268 904 [some (aR q_S), some (aR 1), some (aR 188), some (aR 211), some (aI v4), none, none] [] (G, c) Q)
    (k30 : (v4 ≤ ((G.2.2.2.2.1 : Int) - 6)) → ((q_and (scr G v4) 63) = 23) → T (d + 2) 268 929 [some (aR q_S), some (aR 1), some (aR 188), some (aR 211), some (aI v4), none, none] [] (G, c) Q)
    (k31 : (v4 ≤ ((G.2.2.2.2.1 : Int) - 6)) → ((q_and (scr G v4) 63) = 24) → T (d + 2) 268 966 [some (aR q_S), some (aR 1), some (aR 188), some (aR 211), some (aI v4), none, none] [] (G, c) Q)
    (k32 : (v4 ≤ ((G.2.2.2.2.1 : Int) - 6)) → ((q_and (scr G v4) 63) = 25) → T (d + 2) 268 1003 [some (aR q_S), some (aR 1), some (aR 188), some (aR 211), some (aI v4), none, none] [] (G, c) Q)
    (k33 : (v4 ≤ ((G.2.2.2.2.1 : Int) - 6)) → ((q_and (scr G v4) 63) = 26) → T (d + 2) 268 1016 [some (aR q_S), some (aR 1), some (aR 188), some (aR 211), some (aI v4), none, none] [] (G, c) Q)
    (k34 : (v4 ≤ ((G.2.2.2.2.1 : Int) - 6)) → ((q_and (scr G v4) 63) = 27) → T (d + 2) 268 1041 [some (aR q_S), some (aR 1), some (aR 188), some (aR 211), some (aI v4), none, none] [] (G, c) Q)
    (k35 : (v4 ≤ ((G.2.2.2.2.1 : Int) - 6)) → ((q_and (scr G v4) 63) = 28) → T (d + 2) 268 1066 [some (aR q_S), some (aR 1), some (aR 188), some (aR 211), some (aI v4), none, none] [] (G, c) Q)
    (k36 : (v4 ≤ ((G.2.2.2.2.1 : Int) - 6)) → ((q_and (scr G v4) 63) = 29) → T (d + 2) 268 1103 [some (aR q_S), some (aR 1), some (aR 188), some (aR 211), some (aI v4), none, none] [] (G, c) Q)
    (k37 : (v4 ≤ ((G.2.2.2.2.1 : Int) - 6)) → ((q_and (scr G v4) 63) = 30) → T (d + 2) 268 1140 [some (aR q_S), some (aR 1), some (aR 188), some (aR 211), some (aI v4), none, none] [] (G, c) Q)
    (k38 : (v4 ≤ ((G.2.2.2.2.1 : Int) - 6)) → ((q_and (scr G v4) 63) = 31) → T (d + 2) 268 1165 [some (aR q_S), some (aR 1), some (aR 188), some (aR 211), some (aI v4), none, none] [] (G, c) Q)
    (k39 : (v4 ≤ ((G.2.2.2.2.1 : Int) - 6)) → ((q_and (scr G v4) 63) = 32) → T (d + 2) 268 1190 [some (aR q_S), some (aR 1), some (aR 188), some (aR 211), some (aI v4), none, none] [] (G, c) Q)
    (k40 : (v4 ≤ ((G.2.2.2.2.1 : Int) - 6)) → ((q_and (scr G v4) 63) = 33) → T (d + 2) 268 1215 [some (aR q_S), some (aR 1), some (aR 188), some (aR 211), some (aI v4), none, none] [] (G, c) Q)
    (k41 : (v4 ≤ ((G.2.2.2.2.1 : Int) - 6)) → ((q_and (scr G v4) 63) = 34) → T (d + 2) 268 1228 [some (aR q_S), some (aR 1), some (aR 188), some (aR 211), some (aI v4), none, none] [] (G, c) Q)
    (k42 : (v4 ≤ ((G.2.2.2.2.1 : Int) - 6)) → ((q_and (scr G v4) 63) = 35) → T (d + 2) 268 1253 [some (aR q_S), some (aR 1), some (aR 188), some (aR 211), some (aI v4), none, none] [] (G, c) Q)
    (k43 : (v4 ≤ ((G.2.2.2.2.1 : Int) - 6)) → ((q_and (scr G v4) 63) = 36) → T (d + 2) 268 1278 [some (aR q_S), some (aR 1), some (aR 188), some (aR 211), some (aI v4), none, none] [] (G, c) Q)
    (k44 : (v4 ≤ ((G.2.2.2.2.1 : Int) - 6)) → ((q_and (scr G v4) 63) = 37) → T (d + 2) 268 1303 [some (aR q_S), some (aR 1), some (aR 188), some (aR 211), some (aI v4), none, none] [] (G, c) Q) :
    T (d + 2) 268 23 [some (aR q_S), some (aR 1), some (aR 188), some (aR 211), some (aI v4), none, none] [] (G, c) Q := by
  refine e_L (L' := [some (aR q_S), some (aR 1), some (aR 188), some (aR 211), some (aI v4), none, none]) (st' := [aI v4]) (show decode (mC 268) 23 = .ok (.iload 4, 2) by decide +kernel) rfl rfl ?_
  refine e_L (L' := [some (aR q_S), some (aR 1), some (aR 188), some (aR 211), some (aI v4), none, none]) (st' := [aR q_S, aI v4]) (show decode (mC 268) 25 = .ok (.aload_n 0, 1) by decide +kernel) rfl (by show (if q_S = 0 then none else some (_, _)) = _; rw [if_neg (by decide)]) ?_
  refine e_sln (show decode (mC 268) 26 = .ok (.arraylength, 1) by decide +kernel) ?_
  refine e_P (st' := [aI 6, aI (G.2.2.2.2.1 : Int), aI v4]) (show decode (mC 268) 27 = .ok (.bipush 6, 2) by decide +kernel) rfl rfl rfl ?_
  refine e_P (st' := [aI ((G.2.2.2.2.1 : Int) - 6), aI v4]) (show decode (mC 268) 29 = .ok (.isub, 1) by decide +kernel) rfl rfl rfl ?_
  refine e_gt2 (t := 1334) (show decode (mC 268) 30 = .ok (.if_icmp .gt 1304, 3) by decide +kernel) (by decide) s0 s1 (fun p1 => ?_) (fun p1 => ?_)
  · exact T_le hQ (leN (leN (leN (leN (leN (leS (leS leE))))))) (k2 p1)
  · refine e_L (L' := [some (aR q_S), some (aR 1), some (aR 188), some (aR 211), some (aI v4), none, none]) (st' := [aR q_S]) (show decode (mC 268) 33 = .ok (.aload_n 0, 1) by decide +kernel) rfl (by show (if q_S = 0 then none else some (_, _)) = _; rw [if_neg (by decide)]) ?_
    refine e_L (L' := [some (aR q_S), some (aR 1), some (aR 188), some (aR 211), some (aI v4), none, none]) (st' := [aI v4, aR q_S]) (show decode (mC 268) 34 = .ok (.iload 4, 2) by decide +kernel) rfl rfl ?_
    refine e_sld (show decode (mC 268) 36 = .ok (.iaload, 1) by decide +kernel) (s3 p1) (s4 p1) ?_
    refine e_P (st' := [aI 63, aI (scr G v4)]) (show decode (mC 268) 37 = .ok (.bipush 63, 2) by decide +kernel) rfl rfl rfl ?_
    refine e_P (st' := [aI (q_and (scr G v4) 63)]) (show decode (mC 268) 39 = .ok (.iand, 1) by decide +kernel) rfl rfl rfl ?_
    rcases (show ((q_and (scr G v4) 63) < 0 ∨ 37 < (q_and (scr G v4) 63)) ∨ (q_and (scr G v4) 63) = 0 ∨ (q_and (scr G v4) 63) = 1 ∨ (q_and (scr G v4) 63) = 2 ∨ (q_and (scr G v4) 63) = 3 ∨ (q_and (scr G v4) 63) = 4 ∨ (q_and (scr G v4) 63) = 5 ∨ (q_and (scr G v4) 63) = 6 ∨ (q_and (scr G v4) 63) = 7 ∨ (q_and (scr G v4) 63) = 8 ∨ (q_and (scr G v4) 63) = 9 ∨ (q_and (scr G v4) 63) = 10 ∨ (q_and (scr G v4) 63) = 11 ∨ (q_and (scr G v4) 63) = 12 ∨ (q_and (scr G v4) 63) = 13 ∨ (q_and (scr G v4) 63) = 14 ∨ (q_and (scr G v4) 63) = 15 ∨ (q_and (scr G v4) 63) = 16 ∨ (q_and (scr G v4) 63) = 17 ∨ (q_and (scr G v4) 63) = 18 ∨ (q_and (scr G v4) 63) = 19 ∨ (q_and (scr G v4) 63) = 20 ∨ (q_and (scr G v4) 63) = 21 ∨ (q_and (scr G v4) 63) = 22 ∨ (q_and (scr G v4) 63) = 23 ∨ (q_and (scr G v4) 63) = 24 ∨ (q_and (scr G v4) 63) = 25 ∨ (q_and (scr G v4) 63) = 26 ∨ (q_and (scr G v4) 63) = 27 ∨ (q_and (scr G v4) 63) = 28 ∨ (q_and (scr G v4) 63) = 29 ∨ (q_and (scr G v4) 63) = 30 ∨ (q_and (scr G v4) 63) = 31 ∨ (q_and (scr G v4) 63) = 32 ∨ (q_and (scr G v4) 63) = 33 ∨ (q_and (scr G v4) 63) = 34 ∨ (q_and (scr G v4) 63) = 35 ∨ (q_and (scr G v4) 63) = 36 ∨ (q_and (scr G v4) 63) = 37 by omega) with p2 | p2 | p2 | p2 | p2 | p2 | p2 | p2 | p2 | p2 | p2 | p2 | p2 | p2 | p2 | p2 | p2 | p2 | p2 | p2 | p2 | p2 | p2 | p2 | p2 | p2 | p2 | p2 | p2 | p2 | p2 | p2 | p2 | p2 | p2 | p2 | p2 | p2 | p2
    · refine e_swd (t := 1328) (show decode (mC 268) 40 = .ok (.tableswitch 1288 0 37 #[168, 241, 266, 279, 292, 329, 366, 434, 471, 496, 533, 570, 595, 620, 657, 670, 695, 720, 745, 801, 814, 827, 864, 889, 926, 963, 976, 1001, 1026, 1063, 1100, 1125, 1150, 1175, 1188, 1213, 1238, 1263], 168) by decide +kernel) (s5 p1) p2 (by decide) ?_
      exact (k6 p1 p2)
    · refine e_swj (off := 168) (t := 208) 0 (show decode (mC 268) 40 = .ok (.tableswitch 1288 0 37 #[168, 241, 266, 279, 292, 329, 366, 434, 471, 496, 533, 570, 595, 620, 657, 670, 695, 720, 745, 801, 814, 827, 864, 889, 926, 963, 976, 1001, 1026, 1063, 1100, 1125, 1150, 1175, 1188, 1213, 1238, 1263], 168) by decide +kernel) p2 (by decide +kernel) ?_
      exact (k7 p1 p2)
    · refine e_swj (off := 241) (t := 281) 1 (show decode (mC 268) 40 = .ok (.tableswitch 1288 0 37 #[168, 241, 266, 279, 292, 329, 366, 434, 471, 496, 533, 570, 595, 620, 657, 670, 695, 720, 745, 801, 814, 827, 864, 889, 926, 963, 976, 1001, 1026, 1063, 1100, 1125, 1150, 1175, 1188, 1213, 1238, 1263], 168) by decide +kernel) p2 (by decide +kernel) ?_
      exact (k8 p1 p2)
    · refine e_swj (off := 266) (t := 306) 2 (show decode (mC 268) 40 = .ok (.tableswitch 1288 0 37 #[168, 241, 266, 279, 292, 329, 366, 434, 471, 496, 533, 570, 595, 620, 657, 670, 695, 720, 745, 801, 814, 827, 864, 889, 926, 963, 976, 1001, 1026, 1063, 1100, 1125, 1150, 1175, 1188, 1213, 1238, 1263], 168) by decide +kernel) p2 (by decide +kernel) ?_
      exact (k9 p1 p2)
    · refine e_swj (off := 279) (t := 319) 3 (show decode (mC 268) 40 = .ok (.tableswitch 1288 0 37 #[168, 241, 266, 279, 292, 329, 366, 434, 471, 496, 533, 570, 595, 620, 657, 670, 695, 720, 745, 801, 814, 827, 864, 889, 926, 963, 976, 1001, 1026, 1063, 1100, 1125, 1150, 1175, 1188, 1213, 1238, 1263], 168) by decide +kernel) p2 (by decide +kernel) ?_
      exact (k10 p1 p2)
    · refine e_swj (off := 292) (t := 332) 4 (show decode (mC 268) 40 = .ok (.tableswitch 1288 0 37 #[168, 241, 266, 279, 292, 329, 366, 434, 471, 496, 533, 570, 595, 620, 657, 670, 695, 720, 745, 801, 814, 827, 864, 889, 926, 963, 976, 1001, 1026, 1063, 1100, 1125, 1150, 1175, 1188, 1213, 1238, 1263], 168) by decide +kernel) p2 (by decide +kernel) ?_
      exact (k11 p1 p2)
    · refine e_swj (off := 329) (t := 369) 5 (show decode (mC 268) 40 = .ok (.tableswitch 1288 0 37 #[168, 241, 266, 279, 292, 329, 366, 434, 471, 496, 533, 570, 595, 620, 657, 670, 695, 720, 745, 801, 814, 827, 864, 889, 926, 963, 976, 1001, 1026, 1063, 1100, 1125, 1150, 1175, 1188, 1213, 1238, 1263], 168) by decide +kernel) p2 (by decide +kernel) ?_
      exact (k12 p1 p2)
    · refine e_swj (off := 366) (t := 406) 6 (show decode (mC 268) 40 = .ok (.tableswitch 1288 0 37 #[168, 241, 266, 279, 292, 329, 366, 434, 471, 496, 533, 570, 595, 620, 657, 670, 695, 720, 745, 801, 814, 827, 864, 889, 926, 963, 976, 1001, 1026, 1063, 1100, 1125, 1150, 1175, 1188, 1213, 1238, 1263], 168) by decide +kernel) p2 (by decide +kernel) ?_
      exact (k13 p1 p2)
    · refine e_swj (off := 434) (t := 474) 7 (show decode (mC 268) 40 = .ok (.tableswitch 1288 0 37 #[168, 241, 266, 279, 292, 329, 366, 434, 471, 496, 533, 570, 595, 620, 657, 670, 695, 720, 745, 801, 814, 827, 864, 889, 926, 963, 976, 1001, 1026, 1063, 1100, 1125, 1150, 1175, 1188, 1213, 1238, 1263], 168) by decide +kernel) p2 (by decide +kernel) ?_
      exact (k14 p1 p2)
    · refine e_swj (off := 471) (t := 511) 8 (show decode (mC 268) 40 = .ok (.tableswitch 1288 0 37 #[168, 241, 266, 279, 292, 329, 366, 434, 471, 496, 533, 570, 595, 620, 657, 670, 695, 720, 745, 801, 814, 827, 864, 889, 926, 963, 976, 1001, 1026, 1063, 1100, 1125, 1150, 1175, 1188, 1213, 1238, 1263], 168) by decide +kernel) p2 (by decide +kernel) ?_
      exact (k15 p1 p2)
    · refine e_swj (off := 496) (t := 536) 9 (show decode (mC 268) 40 = .ok (.tableswitch 1288 0 37 #[168, 241, 266, 279, 292, 329, 366, 434, 471, 496, 533, 570, 595, 620, 657, 670, 695, 720, 745, 801, 814, 827, 864, 889, 926, 963, 976, 1001, 1026, 1063, 1100, 1125, 1150, 1175, 1188, 1213, 1238, 1263], 168) by decide +kernel) p2 (by decide +kernel) ?_
      exact (k16 p1 p2)
    · refine e_swj (off := 533) (t := 573) 10 (show decode (mC 268) 40 = .ok (.tableswitch 1288 0 37 #[168, 241, 266, 279, 292, 329, 366, 434, 471, 496, 533, 570, 595, 620, 657, 670, 695, 720, 745, 801, 814, 827, 864, 889, 926, 963, 976, 1001, 1026, 1063, 1100, 1125, 1150, 1175, 1188, 1213, 1238, 1263], 168) by decide +kernel) p2 (by decide +kernel) ?_
      exact (k17 p1 p2)
    · refine e_swj (off := 570) (t := 610) 11 (show decode (mC 268) 40 = .ok (.tableswitch 1288 0 37 #[168, 241, 266, 279, 292, 329, 366, 434, 471, 496, 533, 570, 595, 620, 657, 670, 695, 720, 745, 801, 814, 827, 864, 889, 926, 963, 976, 1001, 1026, 1063, 1100, 1125, 1150, 1175, 1188, 1213, 1238, 1263], 168) by decide +kernel) p2 (by decide +kernel) ?_
      exact (k18 p1 p2)
    · refine e_swj (off := 595) (t := 635) 12 (show decode (mC 268) 40 = .ok (.tableswitch 1288 0 37 #[168, 241, 266, 279, 292, 329, 366, 434, 471, 496, 533, 570, 595, 620, 657, 670, 695, 720, 745, 801, 814, 827, 864, 889, 926, 963, 976, 1001, 1026, 1063, 1100, 1125, 1150, 1175, 1188, 1213, 1238, 1263], 168) by decide +kernel) p2 (by decide +kernel) ?_
      exact (k19 p1 p2)
    · refine e_swj (off := 620) (t := 660) 13 (show decode (mC 268) 40 = .ok (.tableswitch 1288 0 37 #[168, 241, 266, 279, 292, 329, 366, 434, 471, 496, 533, 570, 595, 620, 657, 670, 695, 720, 745, 801, 814, 827, 864, 889, 926, 963, 976, 1001, 1026, 1063, 1100, 1125, 1150, 1175, 1188, 1213, 1238, 1263], 168) by decide +kernel) p2 (by decide +kernel) ?_
      exact (k20 p1 p2)
    · refine e_swj (off := 657) (t := 697) 14 (show decode (mC 268) 40 = .ok (.tableswitch 1288 0 37 #[168, 241, 266, 279, 292, 329, 366, 434, 471, 496, 533, 570, 595, 620, 657, 670, 695, 720, 745, 801, 814, 827, 864, 889, 926, 963, 976, 1001, 1026, 1063, 1100, 1125, 1150, 1175, 1188, 1213, 1238, 1263], 168) by decide +kernel) p2 (by decide +kernel) ?_
      exact (k21 p1 p2)
    · refine e_swj (off := 670) (t := 710) 15 (show decode (mC 268) 40 = .ok (.tableswitch 1288 0 37 #[168, 241, 266, 279, 292, 329, 366, 434, 471, 496, 533, 570, 595, 620, 657, 670, 695, 720, 745, 801, 814, 827, 864, 889, 926, 963, 976, 1001, 1026, 1063, 1100, 1125, 1150, 1175, 1188, 1213, 1238, 1263], 168) by decide +kernel) p2 (by decide +kernel) ?_
      exact (k22 p1 p2)
    · refine e_swj (off := 695) (t := 735) 16 (show decode (mC 268) 40 = .ok (.tableswitch 1288 0 37 #[168, 241, 266, 279, 292, 329, 366, 434, 471, 496, 533, 570, 595, 620, 657, 670, 695, 720, 745, 801, 814, 827, 864, 889, 926, 963, 976, 1001, 1026, 1063, 1100, 1125, 1150, 1175, 1188, 1213, 1238, 1263], 168) by decide +kernel) p2 (by decide +kernel) ?_
      exact (k23 p1 p2)
    · refine e_swj (off := 720) (t := 760) 17 (show decode (mC 268) 40 = .ok (.tableswitch 1288 0 37 #[168, 241, 266, 279, 292, 329, 366, 434, 471, 496, 533, 570, 595, 620, 657, 670, 695, 720, 745, 801, 814, 827, 864, 889, 926, 963, 976, 1001, 1026, 1063, 1100, 1125, 1150, 1175, 1188, 1213, 1238, 1263], 168) by decide +kernel) p2 (by decide +kernel) ?_
      exact (k24 p1 p2)
    · refine e_swj (off := 745) (t := 785) 18 (show decode (mC 268) 40 = .ok (.tableswitch 1288 0 37 #[168, 241, 266, 279, 292, 329, 366, 434, 471, 496, 533, 570, 595, 620, 657, 670, 695, 720, 745, 801, 814, 827, 864, 889, 926, 963, 976, 1001, 1026, 1063, 1100, 1125, 1150, 1175, 1188, 1213, 1238, 1263], 168) by decide +kernel) p2 (by decide +kernel) ?_
      exact (k25 p1 p2)
    · refine e_swj (off := 801) (t := 841) 19 (show decode (mC 268) 40 = .ok (.tableswitch 1288 0 37 #[168, 241, 266, 279, 292, 329, 366, 434, 471, 496, 533, 570, 595, 620, 657, 670, 695, 720, 745, 801, 814, 827, 864, 889, 926, 963, 976, 1001, 1026, 1063, 1100, 1125, 1150, 1175, 1188, 1213, 1238, 1263], 168) by decide +kernel) p2 (by decide +kernel) ?_
      exact (k26 p1 p2)
    · refine e_swj (off := 814) (t := 854) 20 (show decode (mC 268) 40 = .ok (.tableswitch 1288 0 37 #[168, 241, 266, 279, 292, 329, 366, 434, 471, 496, 533, 570, 595, 620, 657, 670, 695, 720, 745, 801, 814, 827, 864, 889, 926, 963, 976, 1001, 1026, 1063, 1100, 1125, 1150, 1175, 1188, 1213, 1238, 1263], 168) by decide +kernel) p2 (by decide +kernel) ?_
      exact (k27 p1 p2)
    · refine e_swj (off := 827) (t := 867) 21 (show decode (mC 268) 40 = .ok (.tableswitch 1288 0 37 #[168, 241, 266, 279, 292, 329, 366, 434, 471, 496, 533, 570, 595, 620, 657, 670, 695, 720, 745, 801, 814, 827, 864, 889, 926, 963, 976, 1001, 1026, 1063, 1100, 1125, 1150, 1175, 1188, 1213, 1238, 1263], 168) by decide +kernel) p2 (by decide +kernel) ?_
      exact (k28 p1 p2)
    · refine e_swj (off := 864) (t := 904) 22 (show decode (mC 268) 40 = .ok (.tableswitch 1288 0 37 #[168, 241, 266, 279, 292, 329, 366, 434, 471, 496, 533, 570, 595, 620, 657, 670, 695, 720, 745, 801, 814, 827, 864, 889, 926, 963, 976, 1001, 1026, 1063, 1100, 1125, 1150, 1175, 1188, 1213, 1238, 1263], 168) by decide +kernel) p2 (by decide +kernel) ?_
      exact (k29 p1 p2)
    · refine e_swj (off := 889) (t := 929) 23 (show decode (mC 268) 40 = .ok (.tableswitch 1288 0 37 #[168, 241, 266, 279, 292, 329, 366, 434, 471, 496, 533, 570, 595, 620, 657, 670, 695, 720, 745, 801, 814, 827, 864, 889, 926, 963, 976, 1001, 1026, 1063, 1100, 1125, 1150, 1175, 1188, 1213, 1238, 1263], 168) by decide +kernel) p2 (by decide +kernel) ?_
      exact (k30 p1 p2)
    · refine e_swj (off := 926) (t := 966) 24 (show decode (mC 268) 40 = .ok (.tableswitch 1288 0 37 #[168, 241, 266, 279, 292, 329, 366, 434, 471, 496, 533, 570, 595, 620, 657, 670, 695, 720, 745, 801, 814, 827, 864, 889, 926, 963, 976, 1001, 1026, 1063, 1100, 1125, 1150, 1175, 1188, 1213, 1238, 1263], 168) by decide +kernel) p2 (by decide +kernel) ?_
      exact (k31 p1 p2)
    · refine e_swj (off := 963) (t := 1003) 25 (show decode (mC 268) 40 = .ok (.tableswitch 1288 0 37 #[168, 241, 266, 279, 292, 329, 366, 434, 471, 496, 533, 570, 595, 620, 657, 670, 695, 720, 745, 801, 814, 827, 864, 889, 926, 963, 976, 1001, 1026, 1063, 1100, 1125, 1150, 1175, 1188, 1213, 1238, 1263], 168) by decide +kernel) p2 (by decide +kernel) ?_
      exact (k32 p1 p2)
    · refine e_swj (off := 976) (t := 1016) 26 (show decode (mC 268) 40 = .ok (.tableswitch 1288 0 37 #[168, 241, 266, 279, 292, 329, 366, 434, 471, 496, 533, 570, 595, 620, 657, 670, 695, 720, 745, 801, 814, 827, 864, 889, 926, 963, 976, 1001, 1026, 1063, 1100, 1125, 1150, 1175, 1188, 1213, 1238, 1263], 168) by decide +kernel) p2 (by decide +kernel) ?_
      exact (k33 p1 p2)
    · refine e_swj (off := 1001) (t := 1041) 27 (show decode (mC 268) 40 = .ok (.tableswitch 1288 0 37 #[168, 241, 266, 279, 292, 329, 366, 434, 471, 496, 533, 570, 595, 620, 657, 670, 695, 720, 745, 801, 814, 827, 864, 889, 926, 963, 976, 1001, 1026, 1063, 1100, 1125, 1150, 1175, 1188, 1213, 1238, 1263], 168) by decide +kernel) p2 (by decide +kernel) ?_
      exact (k34 p1 p2)
    · refine e_swj (off := 1026) (t := 1066) 28 (show decode (mC 268) 40 = .ok (.tableswitch 1288 0 37 #[168, 241, 266, 279, 292, 329, 366, 434, 471, 496, 533, 570, 595, 620, 657, 670, 695, 720, 745, 801, 814, 827, 864, 889, 926, 963, 976, 1001, 1026, 1063, 1100, 1125, 1150, 1175, 1188, 1213, 1238, 1263], 168) by decide +kernel) p2 (by decide +kernel) ?_
      exact (k35 p1 p2)
    · refine e_swj (off := 1063) (t := 1103) 29 (show decode (mC 268) 40 = .ok (.tableswitch 1288 0 37 #[168, 241, 266, 279, 292, 329, 366, 434, 471, 496, 533, 570, 595, 620, 657, 670, 695, 720, 745, 801, 814, 827, 864, 889, 926, 963, 976, 1001, 1026, 1063, 1100, 1125, 1150, 1175, 1188, 1213, 1238, 1263], 168) by decide +kernel) p2 (by decide +kernel) ?_
      exact (k36 p1 p2)
    · refine e_swj (off := 1100) (t := 1140) 30 (show decode (mC 268) 40 = .ok (.tableswitch 1288 0 37 #[168, 241, 266, 279, 292, 329, 366, 434, 471, 496, 533, 570, 595, 620, 657, 670, 695, 720, 745, 801, 814, 827, 864, 889, 926, 963, 976, 1001, 1026, 1063, 1100, 1125, 1150, 1175, 1188, 1213, 1238, 1263], 168) by decide +kernel) p2 (by decide +kernel) ?_
      exact (k37 p1 p2)
    · refine e_swj (off := 1125) (t := 1165) 31 (show decode (mC 268) 40 = .ok (.tableswitch 1288 0 37 #[168, 241, 266, 279, 292, 329, 366, 434, 471, 496, 533, 570, 595, 620, 657, 670, 695, 720, 745, 801, 814, 827, 864, 889, 926, 963, 976, 1001, 1026, 1063, 1100, 1125, 1150, 1175, 1188, 1213, 1238, 1263], 168) by decide +kernel) p2 (by decide +kernel) ?_
      exact (k38 p1 p2)
    · refine e_swj (off := 1150) (t := 1190) 32 (show decode (mC 268) 40 = .ok (.tableswitch 1288 0 37 #[168, 241, 266, 279, 292, 329, 366, 434, 471, 496, 533, 570, 595, 620, 657, 670, 695, 720, 745, 801, 814, 827, 864, 889, 926, 963, 976, 1001, 1026, 1063, 1100, 1125, 1150, 1175, 1188, 1213, 1238, 1263], 168) by decide +kernel) p2 (by decide +kernel) ?_
      exact (k39 p1 p2)
    · refine e_swj (off := 1175) (t := 1215) 33 (show decode (mC 268) 40 = .ok (.tableswitch 1288 0 37 #[168, 241, 266, 279, 292, 329, 366, 434, 471, 496, 533, 570, 595, 620, 657, 670, 695, 720, 745, 801, 814, 827, 864, 889, 926, 963, 976, 1001, 1026, 1063, 1100, 1125, 1150, 1175, 1188, 1213, 1238, 1263], 168) by decide +kernel) p2 (by decide +kernel) ?_
      exact (k40 p1 p2)
    · refine e_swj (off := 1188) (t := 1228) 34 (show decode (mC 268) 40 = .ok (.tableswitch 1288 0 37 #[168, 241, 266, 279, 292, 329, 366, 434, 471, 496, 533, 570, 595, 620, 657, 670, 695, 720, 745, 801, 814, 827, 864, 889, 926, 963, 976, 1001, 1026, 1063, 1100, 1125, 1150, 1175, 1188, 1213, 1238, 1263], 168) by decide +kernel) p2 (by decide +kernel) ?_
      exact (k41 p1 p2)
    · refine e_swj (off := 1213) (t := 1253) 35 (show decode (mC 268) 40 = .ok (.tableswitch 1288 0 37 #[168, 241, 266, 279, 292, 329, 366, 434, 471, 496, 533, 570, 595, 620, 657, 670, 695, 720, 745, 801, 814, 827, 864, 889, 926, 963, 976, 1001, 1026, 1063, 1100, 1125, 1150, 1175, 1188, 1213, 1238, 1263], 168) by decide +kernel) p2 (by decide +kernel) ?_
      exact (k42 p1 p2)
    · refine e_swj (off := 1238) (t := 1278) 36 (show decode (mC 268) 40 = .ok (.tableswitch 1288 0 37 #[168, 241, 266, 279, 292, 329, 366, 434, 471, 496, 533, 570, 595, 620, 657, 670, 695, 720, 745, 801, 814, 827, 864, 889, 926, 963, 976, 1001, 1026, 1063, 1100, 1125, 1150, 1175, 1188, 1213, 1238, 1263], 168) by decide +kernel) p2 (by decide +kernel) ?_
      exact (k43 p1 p2)
    · refine e_swj (off := 1263) (t := 1303) 37 (show decode (mC 268) 40 = .ok (.tableswitch 1288 0 37 #[168, 241, 266, 279, 292, 329, 366, 434, 471, 496, 533, 570, 595, 620, 657, 670, 695, 720, 745, 801, 814, 827, 864, 889, 926, 963, 976, 1001, 1026, 1063, 1100, 1125, 1150, 1175, 1188, 1213, 1238, 1263], 168) by decide +kernel) p2 (by decide +kernel) ?_
      exact (k44 p1 p2)
theorem b268_208 (hG : Shp G) {v4 : Int}
    (s0 : 0 ≤ (v4 + 1))
    (s1 : (v4 + 1) < (G.2.2.2.2.1 : Int))
    (s2 : 0 ≤ (v4 + 2))
    (s3 : (v4 + 2) < (G.2.2.2.2.1 : Int))
    (s4 : 0 ≤ (v4 + 3))
    (s5 : (v4 + 3) < (G.2.2.2.2.1 : Int))
    (s6 : 0 ≤ (v4 + 4))
    (s7 : (v4 + 4) < (G.2.2.2.2.1 : Int))
    (s8 : 0 ≤ (v4 + 5))
    (s9 : (v4 + 5) < (G.2.2.2.2.1 : Int))
    (m10 : TM (d + 1) 110 [aR 1, aI (scr G (v4 + 1)), aI (scr G (v4 + 2)), aI (scr G (v4 + 3)), aI (scr G (v4 + 4)), aI (scr G (v4 + 5))] (G, c) (fun r h' => T (d + 2) 268 242 [some (aR q_S), some (aR 1), some (aR 188), some (aR 211), some (aI v4), none, none] (r.toList ++ []) h' Q)) :
    T (d + 2) 268 208 [some (aR q_S), some (aR 1), some (aR 188), some (aR 211), some (aI v4), none, none] [] (G, c) Q := by
  refine e_L (L' := [some (aR q_S), some (aR 1), some (aR 188), some (aR 211), some (aI v4), none, none]) (st' := [aR 1]) (show decode (mC 268) 208 = .ok (.aload_n 1, 1) by decide +kernel) rfl (by show (if 1 = 0 then none else some (_, _)) = _; rw [if_neg (by decide)]) ?_
  refine e_L (L' := [some (aR q_S), some (aR 1), some (aR 188), some (aR 211), some (aI v4), none, none]) (st' := [aR q_S, aR 1]) (show decode (mC 268) 209 = .ok (.aload_n 0, 1) by decide +kernel) rfl (by show (if q_S = 0 then none else some (_, _)) = _; rw [if_neg (by decide)]) ?_
  refine e_L (L' := [some (aR q_S), some (aR 1), some (aR 188), some (aR 211), some (aI v4), none, none]) (st' := [aI v4, aR q_S, aR 1]) (show decode (mC 268) 210 = .ok (.iload 4, 2) by decide +kernel) rfl rfl ?_
  refine e_P (st' := [aI 1, aI v4, aR q_S, aR 1]) (show decode (mC 268) 212 = .ok (.iconst 1, 1) by decide +kernel) rfl rfl rfl ?_
  refine e_P (st' := [aI (v4 + 1), aR q_S, aR 1]) (show decode (mC 268) 213 = .ok (.iadd, 1) by decide +kernel) rfl rfl rfl ?_
  refine e_sld (show decode (mC 268) 214 = .ok (.iaload, 1) by decide +kernel) s0 s1 ?_
  refine e_L (L' := [some (aR q_S), some (aR 1), some (aR 188), some (aR 211), some (aI v4), none, none]) (st' := [aR q_S, aI (scr G (v4 + 1)), aR 1]) (show decode (mC 268) 215 = .ok (.aload_n 0, 1) by decide +kernel) rfl (by show (if q_S = 0 then none else some (_, _)) = _; rw [if_neg (by decide)]) ?_
  refine e_L (L' := [some (aR q_S), some (aR 1), some (aR 188), some (aR 211), some (aI v4), none, none]) (st' := [aI v4, aR q_S, aI (scr G (v4 + 1)), aR 1]) (show decode (mC 268) 216 = .ok (.iload 4, 2) by decide +kernel) rfl rfl ?_
  refine e_P (st' := [aI 2, aI v4, aR q_S, aI (scr G (v4 + 1)), aR 1]) (show decode (mC 268) 218 = .ok (.iconst 2, 1) by decide +kernel) rfl rfl rfl ?_
  refine e_P (st' := [aI (v4 + 2), aR q_S, aI (scr G (v4 + 1)), aR 1]) (show decode (mC 268) 219 = .ok (.iadd, 1) by decide +kernel) rfl rfl rfl ?_
  refine e_sld (show decode (mC 268) 220 = .ok (.iaload, 1) by decide +kernel) s2 s3 ?_
  refine e_L (L' := [some (aR q_S), some (aR 1), some (aR 188), some (aR 211), some (aI v4), none, none]) (st' := [aR q_S, aI (scr G (v4 + 2)), aI (scr G (v4 + 1)), aR 1]) (show decode (mC 268) 221 = .ok (.aload_n 0, 1) by decide +kernel) rfl (by show (if q_S = 0 then none else some (_, _)) = _; rw [if_neg (by decide)]) ?_
  refine e_L (L' := [some (aR q_S), some (aR 1), some (aR 188), some (aR 211), some (aI v4), none, none]) (st' := [aI v4, aR q_S, aI (scr G (v4 + 2)), aI (scr G (v4 + 1)), aR 1]) (show decode (mC 268) 222 = .ok (.iload 4, 2) by decide +kernel) rfl rfl ?_
  refine e_P (st' := [aI 3, aI v4, aR q_S, aI (scr G (v4 + 2)), aI (scr G (v4 + 1)), aR 1]) (show decode (mC 268) 224 = .ok (.iconst 3, 1) by decide +kernel) rfl rfl rfl ?_
  refine e_P (st' := [aI (v4 + 3), aR q_S, aI (scr G (v4 + 2)), aI (scr G (v4 + 1)), aR 1]) (show decode (mC 268) 225 = .ok (.iadd, 1) by decide +kernel) rfl rfl rfl ?_
  refine e_sld (show decode (mC 268) 226 = .ok (.iaload, 1) by decide +kernel) s4 s5 ?_
  refine e_L (L' := [some (aR q_S), some (aR 1), some (aR 188), some (aR 211), some (aI v4), none, none]) (st' := [aR q_S, aI (scr G (v4 + 3)), aI (scr G (v4 + 2)), aI (scr G (v4 + 1)), aR 1]) (show decode (mC 268) 227 = .ok (.aload_n 0, 1) by decide +kernel) rfl (by show (if q_S = 0 then none else some (_, _)) = _; rw [if_neg (by decide)]) ?_
  refine e_L (L' := [some (aR q_S), some (aR 1), some (aR 188), some (aR 211), some (aI v4), none, none]) (st' := [aI v4, aR q_S, aI (scr G (v4 + 3)), aI (scr G (v4 + 2)), aI (scr G (v4 + 1)), aR 1]) (show decode (mC 268) 228 = .ok (.iload 4, 2) by decide +kernel) rfl rfl ?_
  refine e_P (st' := [aI 4, aI v4, aR q_S, aI (scr G (v4 + 3)), aI (scr G (v4 + 2)), aI (scr G (v4 + 1)), aR 1]) (show decode (mC 268) 230 = .ok (.iconst 4, 1) by decide +kernel) rfl rfl rfl ?_
  refine e_P (st' := [aI (v4 + 4), aR q_S, aI (scr G (v4 + 3)), aI (scr G (v4 + 2)), aI (scr G (v4 + 1)), aR 1]) (show decode (mC 268) 231 = .ok (.iadd, 1) by decide +kernel) rfl rfl rfl ?_
  refine e_sld (show decode (mC 268) 232 = .ok (.iaload, 1) by decide +kernel) s6 s7 ?_
  refine e_L (L' := [some (aR q_S), some (aR 1), some (aR 188), some (aR 211), some (aI v4), none, none]) (st' := [aR q_S, aI (scr G (v4 + 4)), aI (scr G (v4 + 3)), aI (scr G (v4 + 2)), aI (scr G (v4 + 1)), aR 1]) (show decode (mC 268) 233 = .ok (.aload_n 0, 1) by decide +kernel) rfl (by show (if q_S = 0 then none else some (_, _)) = _; rw [if_neg (by decide)]) ?_
  refine e_L (L' := [some (aR q_S), some (aR 1), some (aR 188), some (aR 211), some (aI v4), none, none]) (st' := [aI v4, aR q_S, aI (scr G (v4 + 4)), aI (scr G (v4 + 3)), aI (scr G (v4 + 2)), aI (scr G (v4 + 1)), aR 1]) (show decode (mC 268) 234 = .ok (.iload 4, 2) by decide +kernel) rfl rfl ?_
  refine e_P (st' := [aI 5, aI v4, aR q_S, aI (scr G (v4 + 4)), aI (scr G (v4 + 3)), aI (scr G (v4 + 2)), aI (scr G (v4 + 1)), aR 1]) (show decode (mC 268) 236 = .ok (.iconst 5, 1) by decide +kernel) rfl rfl rfl ?_
  refine e_P (st' := [aI (v4 + 5), aR q_S, aI (scr G (v4 + 4)), aI (scr G (v4 + 3)), aI (scr G (v4 + 2)), aI (scr G (v4 + 1)), aR 1]) (show decode (mC 268) 237 = .ok (.iadd, 1) by decide +kernel) rfl rfl rfl ?_
  refine e_sld (show decode (mC 268) 238 = .ok (.iaload, 1) by decide +kernel) s8 s9 ?_
  exact e_V (as := [aR 1, aI (scr G (v4 + 1)), aI (scr G (v4 + 2)), aI (scr G (v4 + 3)), aI (scr G (v4 + 4)), aI (scr G (v4 + 5))]) (rest := []) (show decode (mC 268) 239 = .ok (.invokevirtual 23, 3) by decide +kernel) (by decide +kernel) (show (decide ((6 : Nat) = mA 110) && decide (110 < q_law)) = true by decide +kernel) rfl (show (0 : Nat) ≤ 8 by decide) (show (6 : Nat) ≤ mL 110 by decide +kernel) rfl (sh_ok hG (by decide +kernel)) m10
theorem b268_242 (hG : Shp G) {v4 u0 : Int}
    (s0 : 0 ≤ (v4 + 1))
    (s1 : (v4 + 1) < (G.2.2.2.2.1 : Int))
    (s2 : 0 ≤ (v4 + 2))
    (s3 : (v4 + 2) < (G.2.2.2.2.1 : Int))
    (s4 : 0 ≤ (v4 + 3))
    (s5 : (v4 + 3) < (G.2.2.2.2.1 : Int))
    (s6 : 0 ≤ (v4 + 4))
    (s7 : (v4 + 4) < (G.2.2.2.2.1 : Int))
    (s8 : 0 ≤ (v4 + 5))
    (s9 : (v4 + 5) < (G.2.2.2.2.1 : Int))
    (m10 : TM (d + 1) 160 [aR 188, aI (scr G (v4 + 1)), aI (scr G (v4 + 2)), aI (scr G (v4 + 3)), aI (scr G (v4 + 4)), aI (scr G (v4 + 5))] (G, c) (fun r h' => T (d + 2) 268 276 [some (aR q_S), some (aR 1), some (aR 188), some (aR 211), some (aI v4), none, none] (r.toList ++ [aI u0]) h' Q)) :
    T (d + 2) 268 242 [some (aR q_S), some (aR 1), some (aR 188), some (aR 211), some (aI v4), none, none] [aI u0] (G, c) Q := by
  refine e_L (L' := [some (aR q_S), some (aR 1), some (aR 188), some (aR 211), some (aI v4), none, none]) (st' := [aR 188, aI u0]) (show decode (mC 268) 242 = .ok (.aload_n 2, 1) by decide +kernel) rfl (by show (if 188 = 0 then none else some (_, _)) = _; rw [if_neg (by decide)]) ?_
  refine e_L (L' := [some (aR q_S), some (aR 1), some (aR 188), some (aR 211), some (aI v4), none, none]) (st' := [aR q_S, aR 188, aI u0]) (show decode (mC 268) 243 = .ok (.aload_n 0, 1) by decide +kernel) rfl (by show (if q_S = 0 then none else some (_, _)) = _; rw [if_neg (by decide)]) ?_
  refine e_L (L' := [some (aR q_S), some (aR 1), some (aR 188), some (aR 211), some (aI v4), none, none]) (st' := [aI v4, aR q_S, aR 188, aI u0]) (show decode (mC 268) 244 = .ok (.iload 4, 2) by decide +kernel) rfl rfl ?_
  refine e_P (st' := [aI 1, aI v4, aR q_S, aR 188, aI u0]) (show decode (mC 268) 246 = .ok (.iconst 1, 1) by decide +kernel) rfl rfl rfl ?_
  refine e_P (st' := [aI (v4 + 1), aR q_S, aR 188, aI u0]) (show decode (mC 268) 247 = .ok (.iadd, 1) by decide +kernel) rfl rfl rfl ?_
  refine e_sld (show decode (mC 268) 248 = .ok (.iaload, 1) by decide +kernel) s0 s1 ?_
  refine e_L (L' := [some (aR q_S), some (aR 1), some (aR 188), some (aR 211), some (aI v4), none, none]) (st' := [aR q_S, aI (scr G (v4 + 1)), aR 188, aI u0]) (show decode (mC 268) 249 = .ok (.aload_n 0, 1) by decide +kernel) rfl (by show (if q_S = 0 then none else some (_, _)) = _; rw [if_neg (by decide)]) ?_
  refine e_L (L' := [some (aR q_S), some (aR 1), some (aR 188), some (aR 211), some (aI v4), none, none]) (st' := [aI v4, aR q_S, aI (scr G (v4 + 1)), aR 188, aI u0]) (show decode (mC 268) 250 = .ok (.iload 4, 2) by decide +kernel) rfl rfl ?_
  refine e_P (st' := [aI 2, aI v4, aR q_S, aI (scr G (v4 + 1)), aR 188, aI u0]) (show decode (mC 268) 252 = .ok (.iconst 2, 1) by decide +kernel) rfl rfl rfl ?_
  refine e_P (st' := [aI (v4 + 2), aR q_S, aI (scr G (v4 + 1)), aR 188, aI u0]) (show decode (mC 268) 253 = .ok (.iadd, 1) by decide +kernel) rfl rfl rfl ?_
  refine e_sld (show decode (mC 268) 254 = .ok (.iaload, 1) by decide +kernel) s2 s3 ?_
  refine e_L (L' := [some (aR q_S), some (aR 1), some (aR 188), some (aR 211), some (aI v4), none, none]) (st' := [aR q_S, aI (scr G (v4 + 2)), aI (scr G (v4 + 1)), aR 188, aI u0]) (show decode (mC 268) 255 = .ok (.aload_n 0, 1) by decide +kernel) rfl (by show (if q_S = 0 then none else some (_, _)) = _; rw [if_neg (by decide)]) ?_
  refine e_L (L' := [some (aR q_S), some (aR 1), some (aR 188), some (aR 211), some (aI v4), none, none]) (st' := [aI v4, aR q_S, aI (scr G (v4 + 2)), aI (scr G (v4 + 1)), aR 188, aI u0]) (show decode (mC 268) 256 = .ok (.iload 4, 2) by decide +kernel) rfl rfl ?_
  refine e_P (st' := [aI 3, aI v4, aR q_S, aI (scr G (v4 + 2)), aI (scr G (v4 + 1)), aR 188, aI u0]) (show decode (mC 268) 258 = .ok (.iconst 3, 1) by decide +kernel) rfl rfl rfl ?_
  refine e_P (st' := [aI (v4 + 3), aR q_S, aI (scr G (v4 + 2)), aI (scr G (v4 + 1)), aR 188, aI u0]) (show decode (mC 268) 259 = .ok (.iadd, 1) by decide +kernel) rfl rfl rfl ?_
  refine e_sld (show decode (mC 268) 260 = .ok (.iaload, 1) by decide +kernel) s4 s5 ?_
  refine e_L (L' := [some (aR q_S), some (aR 1), some (aR 188), some (aR 211), some (aI v4), none, none]) (st' := [aR q_S, aI (scr G (v4 + 3)), aI (scr G (v4 + 2)), aI (scr G (v4 + 1)), aR 188, aI u0]) (show decode (mC 268) 261 = .ok (.aload_n 0, 1) by decide +kernel) rfl (by show (if q_S = 0 then none else some (_, _)) = _; rw [if_neg (by decide)]) ?_
  refine e_L (L' := [some (aR q_S), some (aR 1), some (aR 188), some (aR 211), some (aI v4), none, none]) (st' := [aI v4, aR q_S, aI (scr G (v4 + 3)), aI (scr G (v4 + 2)), aI (scr G (v4 + 1)), aR 188, aI u0]) (show decode (mC 268) 262 = .ok (.iload 4, 2) by decide +kernel) rfl rfl ?_
  refine e_P (st' := [aI 4, aI v4, aR q_S, aI (scr G (v4 + 3)), aI (scr G (v4 + 2)), aI (scr G (v4 + 1)), aR 188, aI u0]) (show decode (mC 268) 264 = .ok (.iconst 4, 1) by decide +kernel) rfl rfl rfl ?_
  refine e_P (st' := [aI (v4 + 4), aR q_S, aI (scr G (v4 + 3)), aI (scr G (v4 + 2)), aI (scr G (v4 + 1)), aR 188, aI u0]) (show decode (mC 268) 265 = .ok (.iadd, 1) by decide +kernel) rfl rfl rfl ?_
  refine e_sld (show decode (mC 268) 266 = .ok (.iaload, 1) by decide +kernel) s6 s7 ?_
  refine e_L (L' := [some (aR q_S), some (aR 1), some (aR 188), some (aR 211), some (aI v4), none, none]) (st' := [aR q_S, aI (scr G (v4 + 4)), aI (scr G (v4 + 3)), aI (scr G (v4 + 2)), aI (scr G (v4 + 1)), aR 188, aI u0]) (show decode (mC 268) 267 = .ok (.aload_n 0, 1) by decide +kernel) rfl (by show (if q_S = 0 then none else some (_, _)) = _; rw [if_neg (by decide)]) ?_
  refine e_L (L' := [some (aR q_S), some (aR 1), some (aR 188), some (aR 211), some (aI v4), none, none]) (st' := [aI v4, aR q_S, aI (scr G (v4 + 4)), aI (scr G (v4 + 3)), aI (scr G (v4 + 2)), aI (scr G (v4 + 1)), aR 188, aI u0]) (show decode (mC 268) 268 = .ok (.iload 4, 2) by decide +kernel) rfl rfl ?_
  refine e_P (st' := [aI 5, aI v4, aR q_S, aI (scr G (v4 + 4)), aI (scr G (v4 + 3)), aI (scr G (v4 + 2)), aI (scr G (v4 + 1)), aR 188, aI u0]) (show decode (mC 268) 270 = .ok (.iconst 5, 1) by decide +kernel) rfl rfl rfl ?_
  refine e_P (st' := [aI (v4 + 5), aR q_S, aI (scr G (v4 + 4)), aI (scr G (v4 + 3)), aI (scr G (v4 + 2)), aI (scr G (v4 + 1)), aR 188, aI u0]) (show decode (mC 268) 271 = .ok (.iadd, 1) by decide +kernel) rfl rfl rfl ?_
  refine e_sld (show decode (mC 268) 272 = .ok (.iaload, 1) by decide +kernel) s8 s9 ?_
  exact e_V (as := [aR 188, aI (scr G (v4 + 1)), aI (scr G (v4 + 2)), aI (scr G (v4 + 3)), aI (scr G (v4 + 4)), aI (scr G (v4 + 5))]) (rest := [aI u0]) (show decode (mC 268) 273 = .ok (.invokevirtual 27, 3) by decide +kernel) (by decide +kernel) (show (decide ((6 : Nat) = mA 160) && decide (160 < q_law)) = true by decide +kernel) rfl (show (1 : Nat) ≤ 8 by decide) (show (6 : Nat) ≤ mL 160 by decide +kernel) rfl (sh_ok hG (by decide +kernel)) m10
theorem b268_276 (hG : Shp G) {v4 u0 u1 : Int}
    (s0 : -2147483648 ≤ u0 ∧ u0 < 2147483648)
    (s1 : -2147483648 ≤ u1 ∧ u1 < 2147483648)
    (k2 : (u0 = u1) → T (d + 2) 268 1328 [some (aR q_S), some (aR 1), some (aR 188), some (aR 211), some (aI v4), none, none] [] (G, c) Q)
    (z3 : (¬ u0 = u1) → Q (.inl (some (aI 0))) (G, c)) :
    T (d + 2) 268 276 [some (aR q_S), some (aR 1), some (aR 188), some (aR 211), some (aI v4), none, none] [aI u1, aI u0] (G, c) Q := by
  refine e_eq2 (t := 1328) (show decode (mC 268) 276 = .ok (.if_icmp .eq 1052, 3) by decide +kernel) (by decide) s0 s1 (fun p1 => ?_) (fun p1 => ?_)
  · exact (k2 p1)
  · refine e_P (st' := [aI 0]) (show decode (mC 268) 279 = .ok (.iconst 0, 1) by decide +kernel) rfl rfl rfl ?_
    exact e_zret (show decode (mC 268) 280 = .ok (.ireturn, 1) by decide +kernel) rfl (by decide) (z3 p1)
theorem b268_281 (hG : Shp G) {v4 : Int}
    (s0 : 0 ≤ (v4 + 1))
    (s1 : (v4 + 1) < (G.2.2.2.2.1 : Int))
    (m2 : TM (d + 1) 111 [aR 1, aI (scr G (v4 + 1))] (G, c) (fun r h' => T (d + 2) 268 291 [some (aR q_S), some (aR 1), some (aR 188), some (aR 211), some (aI v4), none, none] (r.toList ++ []) h' Q)) :
    T (d + 2) 268 281 [some (aR q_S), some (aR 1), some (aR 188), some (aR 211), some (aI v4), none, none] [] (G, c) Q := by
  refine e_L (L' := [some (aR q_S), some (aR 1), some (aR 188), some (aR 211), some (aI v4), none, none]) (st' := [aR 1]) (show decode (mC 268) 281 = .ok (.aload_n 1, 1) by decide +kernel) rfl (by show (if 1 = 0 then none else some (_, _)) = _; rw [if_neg (by decide)]) ?_
  refine e_L (L' := [some (aR q_S), some (aR 1), some (aR 188), some (aR 211), some (aI v4), none, none]) (st' := [aR q_S, aR 1]) (show decode (mC 268) 282 = .ok (.aload_n 0, 1) by decide +kernel) rfl (by show (if q_S = 0 then none else some (_, _)) = _; rw [if_neg (by decide)]) ?_
  refine e_L (L' := [some (aR q_S), some (aR 1), some (aR 188), some (aR 211), some (aI v4), none, none]) (st' := [aI v4, aR q_S, aR 1]) (show decode (mC 268) 283 = .ok (.iload 4, 2) by decide +kernel) rfl rfl ?_
  refine e_P (st' := [aI 1, aI v4, aR q_S, aR 1]) (show decode (mC 268) 285 = .ok (.iconst 1, 1) by decide +kernel) rfl rfl rfl ?_
  refine e_P (st' := [aI (v4 + 1), aR q_S, aR 1]) (show decode (mC 268) 286 = .ok (.iadd, 1) by decide +kernel) rfl rfl rfl ?_
  refine e_sld (show decode (mC 268) 287 = .ok (.iaload, 1) by decide +kernel) s0 s1 ?_
  exact e_V (as := [aR 1, aI (scr G (v4 + 1))]) (rest := []) (show decode (mC 268) 288 = .ok (.invokevirtual 28, 3) by decide +kernel) (by decide +kernel) (show (decide ((2 : Nat) = mA 111) && decide (111 < q_law)) = true by decide +kernel) rfl (show (0 : Nat) ≤ 8 by decide) (show (2 : Nat) ≤ mL 111 by decide +kernel) rfl (sh_ok hG (by decide +kernel)) m2
theorem b268_291 (hG : Shp G) {v4 u0 : Int}
    (s0 : 0 ≤ (v4 + 1))
    (s1 : (v4 + 1) < (G.2.2.2.2.1 : Int))
    (m2 : TM (d + 1) 162 [aR 188, aI (scr G (v4 + 1))] (G, c) (fun r h' => T (d + 2) 268 301 [some (aR q_S), some (aR 1), some (aR 188), some (aR 211), some (aI v4), none, none] (r.toList ++ [aI u0]) h' Q)) :
    T (d + 2) 268 291 [some (aR q_S), some (aR 1), some (aR 188), some (aR 211), some (aI v4), none, none] [aI u0] (G, c) Q := by
  refine e_L (L' := [some (aR q_S), some (aR 1), some (aR 188), some (aR 211), some (aI v4), none, none]) (st' := [aR 188, aI u0]) (show decode (mC 268) 291 = .ok (.aload_n 2, 1) by decide +kernel) rfl (by show (if 188 = 0 then none else some (_, _)) = _; rw [if_neg (by decide)]) ?_
  refine e_L (L' := [some (aR q_S), some (aR 1), some (aR 188), some (aR 211), some (aI v4), none, none]) (st' := [aR q_S, aR 188, aI u0]) (show decode (mC 268) 292 = .ok (.aload_n 0, 1) by decide +kernel) rfl (by show (if q_S = 0 then none else some (_, _)) = _; rw [if_neg (by decide)]) ?_
  refine e_L (L' := [some (aR q_S), some (aR 1), some (aR 188), some (aR 211), some (aI v4), none, none]) (st' := [aI v4, aR q_S, aR 188, aI u0]) (show decode (mC 268) 293 = .ok (.iload 4, 2) by decide +kernel) rfl rfl ?_
  refine e_P (st' := [aI 1, aI v4, aR q_S, aR 188, aI u0]) (show decode (mC 268) 295 = .ok (.iconst 1, 1) by decide +kernel) rfl rfl rfl ?_
  refine e_P (st' := [aI (v4 + 1), aR q_S, aR 188, aI u0]) (show decode (mC 268) 296 = .ok (.iadd, 1) by decide +kernel) rfl rfl rfl ?_
  refine e_sld (show decode (mC 268) 297 = .ok (.iaload, 1) by decide +kernel) s0 s1 ?_
  exact e_V (as := [aR 188, aI (scr G (v4 + 1))]) (rest := [aI u0]) (show decode (mC 268) 298 = .ok (.invokevirtual 32, 3) by decide +kernel) (by decide +kernel) (show (decide ((2 : Nat) = mA 162) && decide (162 < q_law)) = true by decide +kernel) rfl (show (1 : Nat) ≤ 8 by decide) (show (2 : Nat) ≤ mL 162 by decide +kernel) rfl (sh_ok hG (by decide +kernel)) m2
theorem b268_301 (hG : Shp G) {v4 u0 u1 : Int}
    (s0 : -2147483648 ≤ u0 ∧ u0 < 2147483648)
    (s1 : -2147483648 ≤ u1 ∧ u1 < 2147483648)
    (k2 : (u0 = u1) → T (d + 2) 268 1328 [some (aR q_S), some (aR 1), some (aR 188), some (aR 211), some (aI v4), none, none] [] (G, c) Q)
    (z3 : (¬ u0 = u1) → Q (.inl (some (aI 0))) (G, c)) :
    T (d + 2) 268 301 [some (aR q_S), some (aR 1), some (aR 188), some (aR 211), some (aI v4), none, none] [aI u1, aI u0] (G, c) Q := by
  refine e_eq2 (t := 1328) (show decode (mC 268) 301 = .ok (.if_icmp .eq 1027, 3) by decide +kernel) (by decide) s0 s1 (fun p1 => ?_) (fun p1 => ?_)
  · exact (k2 p1)
  · refine e_P (st' := [aI 0]) (show decode (mC 268) 304 = .ok (.iconst 0, 1) by decide +kernel) rfl rfl rfl ?_
    exact e_zret (show decode (mC 268) 305 = .ok (.ireturn, 1) by decide +kernel) rfl (by decide) (z3 p1)
theorem b268_306 (hG : Shp G) {v4 : Int}
    (m0 : TM (d + 1) 112 [aR 1] (G, c) (fun r h' => T (d + 2) 268 310 [some (aR q_S), some (aR 1), some (aR 188), some (aR 211), some (aI v4), none, none] (r.toList ++ []) h' Q)) :
    T (d + 2) 268 306 [some (aR q_S), some (aR 1), some (aR 188), some (aR 211), some (aI v4), none, none] [] (G, c) Q := by
  refine e_L (L' := [some (aR q_S), some (aR 1), some (aR 188), some (aR 211), some (aI v4), none, none]) (st' := [aR 1]) (show decode (mC 268) 306 = .ok (.aload_n 1, 1) by decide +kernel) rfl (by show (if 1 = 0 then none else some (_, _)) = _; rw [if_neg (by decide)]) ?_
  exact e_V (as := [aR 1]) (rest := []) (show decode (mC 268) 307 = .ok (.invokevirtual 33, 3) by decide +kernel) (by decide +kernel) (show (decide ((1 : Nat) = mA 112) && decide (112 < q_law)) = true by decide +kernel) rfl (show (0 : Nat) ≤ 8 by decide) (show (1 : Nat) ≤ mL 112 by decide +kernel) rfl (sh_ok hG (by decide +kernel)) m0
theorem b268_310 (hG : Shp G) {v4 u0 : Int}
    (m0 : TM (d + 1) 185 [aR 188] (G, c) (fun r h' => T (d + 2) 268 314 [some (aR q_S), some (aR 1), some (aR 188), some (aR 211), some (aI v4), none, none] (r.toList ++ [aI u0]) h' Q)) :
    T (d + 2) 268 310 [some (aR q_S), some (aR 1), some (aR 188), some (aR 211), some (aI v4), none, none] [aI u0] (G, c) Q := by
  refine e_L (L' := [some (aR q_S), some (aR 1), some (aR 188), some (aR 211), some (aI v4), none, none]) (st' := [aR 188, aI u0]) (show decode (mC 268) 310 = .ok (.aload_n 2, 1) by decide +kernel) rfl (by show (if 188 = 0 then none else some (_, _)) = _; rw [if_neg (by decide)]) ?_
  exact e_V (as := [aR 188]) (rest := [aI u0]) (show decode (mC 268) 311 = .ok (.invokevirtual 37, 3) by decide +kernel) (by decide +kernel) (show (decide ((1 : Nat) = mA 185) && decide (185 < q_law)) = true by decide +kernel) rfl (show (1 : Nat) ≤ 8 by decide) (show (1 : Nat) ≤ mL 185 by decide +kernel) rfl (sh_ok hG (by decide +kernel)) m0
theorem b268_314 (hG : Shp G) {v4 u0 u1 : Int}
    (s0 : -2147483648 ≤ u0 ∧ u0 < 2147483648)
    (s1 : -2147483648 ≤ u1 ∧ u1 < 2147483648)
    (k2 : (u0 = u1) → T (d + 2) 268 1328 [some (aR q_S), some (aR 1), some (aR 188), some (aR 211), some (aI v4), none, none] [] (G, c) Q)
    (z3 : (¬ u0 = u1) → Q (.inl (some (aI 0))) (G, c)) :
    T (d + 2) 268 314 [some (aR q_S), some (aR 1), some (aR 188), some (aR 211), some (aI v4), none, none] [aI u1, aI u0] (G, c) Q := by
  refine e_eq2 (t := 1328) (show decode (mC 268) 314 = .ok (.if_icmp .eq 1014, 3) by decide +kernel) (by decide) s0 s1 (fun p1 => ?_) (fun p1 => ?_)
  · exact (k2 p1)
  · refine e_P (st' := [aI 0]) (show decode (mC 268) 317 = .ok (.iconst 0, 1) by decide +kernel) rfl rfl rfl ?_
    exact e_zret (show decode (mC 268) 318 = .ok (.ireturn, 1) by decide +kernel) rfl (by decide) (z3 p1)
theorem b268_319 (hG : Shp G) {v4 : Int}
    (m0 : TM (d + 1) 113 [aR 1] (G, c) (fun r h' => T (d + 2) 268 323 [some (aR q_S), some (aR 1), some (aR 188), some (aR 211), some (aI v4), none, none] (r.toList ++ []) h' Q)) :
    T (d + 2) 268 319 [some (aR q_S), some (aR 1), some (aR 188), some (aR 211), some (aI v4), none, none] [] (G, c) Q := by
  refine e_L (L' := [some (aR q_S), some (aR 1), some (aR 188), some (aR 211), some (aI v4), none, none]) (st' := [aR 1]) (show decode (mC 268) 319 = .ok (.aload_n 1, 1) by decide +kernel) rfl (by show (if 1 = 0 then none else some (_, _)) = _; rw [if_neg (by decide)]) ?_
  exact e_V (as := [aR 1]) (rest := []) (show decode (mC 268) 320 = .ok (.invokevirtual 38, 3) by decide +kernel) (by decide +kernel) (show (decide ((1 : Nat) = mA 113) && decide (113 < q_law)) = true by decide +kernel) rfl (show (0 : Nat) ≤ 8 by decide) (show (1 : Nat) ≤ mL 113 by decide +kernel) rfl (sh_ok hG (by decide +kernel)) m0
theorem b268_323 (hG : Shp G) {v4 u0 : Int}
    (m0 : TM (d + 1) 186 [aR 188] (G, c) (fun r h' => T (d + 2) 268 327 [some (aR q_S), some (aR 1), some (aR 188), some (aR 211), some (aI v4), none, none] (r.toList ++ [aI u0]) h' Q)) :
    T (d + 2) 268 323 [some (aR q_S), some (aR 1), some (aR 188), some (aR 211), some (aI v4), none, none] [aI u0] (G, c) Q := by
  refine e_L (L' := [some (aR q_S), some (aR 1), some (aR 188), some (aR 211), some (aI v4), none, none]) (st' := [aR 188, aI u0]) (show decode (mC 268) 323 = .ok (.aload_n 2, 1) by decide +kernel) rfl (by show (if 188 = 0 then none else some (_, _)) = _; rw [if_neg (by decide)]) ?_
  exact e_V (as := [aR 188]) (rest := [aI u0]) (show decode (mC 268) 324 = .ok (.invokevirtual 41, 3) by decide +kernel) (by decide +kernel) (show (decide ((1 : Nat) = mA 186) && decide (186 < q_law)) = true by decide +kernel) rfl (show (1 : Nat) ≤ 8 by decide) (show (1 : Nat) ≤ mL 186 by decide +kernel) rfl (sh_ok hG (by decide +kernel)) m0
theorem b268_327 (hG : Shp G) {v4 u0 u1 : Int}
    (s0 : -2147483648 ≤ u0 ∧ u0 < 2147483648)
    (s1 : -2147483648 ≤ u1 ∧ u1 < 2147483648)
    (k2 : (u0 = u1) → T (d + 2) 268 1328 [some (aR q_S), some (aR 1), some (aR 188), some (aR 211), some (aI v4), none, none] [] (G, c) Q)
    (z3 : (¬ u0 = u1) → Q (.inl (some (aI 0))) (G, c)) :
    T (d + 2) 268 327 [some (aR q_S), some (aR 1), some (aR 188), some (aR 211), some (aI v4), none, none] [aI u1, aI u0] (G, c) Q := by
  refine e_eq2 (t := 1328) (show decode (mC 268) 327 = .ok (.if_icmp .eq 1001, 3) by decide +kernel) (by decide) s0 s1 (fun p1 => ?_) (fun p1 => ?_)
  · exact (k2 p1)
  · refine e_P (st' := [aI 0]) (show decode (mC 268) 330 = .ok (.iconst 0, 1) by decide +kernel) rfl rfl rfl ?_
    exact e_zret (show decode (mC 268) 331 = .ok (.ireturn, 1) by decide +kernel) rfl (by decide) (z3 p1)
theorem b268_332 (hG : Shp G) {v4 : Int}
    (s0 : 0 ≤ (v4 + 1))
    (s1 : (v4 + 1) < (G.2.2.2.2.1 : Int))
    (s2 : 0 ≤ (v4 + 2))
    (s3 : (v4 + 2) < (G.2.2.2.2.1 : Int))
    (m4 : TM (d + 1) 119 [aR 1, aI (scr G (v4 + 1)), aI (scr G (v4 + 2))] (G, c) (fun r h' => T (d + 2) 268 348 [some (aR q_S), some (aR 1), some (aR 188), some (aR 211), some (aI v4), none, none] (r.toList ++ []) h' Q)) :
    T (d + 2) 268 332 [some (aR q_S), some (aR 1), some (aR 188), some (aR 211), some (aI v4), none, none] [] (G, c) Q := by
  refine e_L (L' := [some (aR q_S), some (aR 1), some (aR 188), some (aR 211), some (aI v4), none, none]) (st' := [aR 1]) (show decode (mC 268) 332 = .ok (.aload_n 1, 1) by decide +kernel) rfl (by show (if 1 = 0 then none else some (_, _)) = _; rw [if_neg (by decide)]) ?_
  refine e_L (L' := [some (aR q_S), some (aR 1), some (aR 188), some (aR 211), some (aI v4), none, none]) (st' := [aR q_S, aR 1]) (show decode (mC 268) 333 = .ok (.aload_n 0, 1) by decide +kernel) rfl (by show (if q_S = 0 then none else some (_, _)) = _; rw [if_neg (by decide)]) ?_
  refine e_L (L' := [some (aR q_S), some (aR 1), some (aR 188), some (aR 211), some (aI v4), none, none]) (st' := [aI v4, aR q_S, aR 1]) (show decode (mC 268) 334 = .ok (.iload 4, 2) by decide +kernel) rfl rfl ?_
  refine e_P (st' := [aI 1, aI v4, aR q_S, aR 1]) (show decode (mC 268) 336 = .ok (.iconst 1, 1) by decide +kernel) rfl rfl rfl ?_
  refine e_P (st' := [aI (v4 + 1), aR q_S, aR 1]) (show decode (mC 268) 337 = .ok (.iadd, 1) by decide +kernel) rfl rfl rfl ?_
  refine e_sld (show decode (mC 268) 338 = .ok (.iaload, 1) by decide +kernel) s0 s1 ?_
  refine e_L (L' := [some (aR q_S), some (aR 1), some (aR 188), some (aR 211), some (aI v4), none, none]) (st' := [aR q_S, aI (scr G (v4 + 1)), aR 1]) (show decode (mC 268) 339 = .ok (.aload_n 0, 1) by decide +kernel) rfl (by show (if q_S = 0 then none else some (_, _)) = _; rw [if_neg (by decide)]) ?_
  refine e_L (L' := [some (aR q_S), some (aR 1), some (aR 188), some (aR 211), some (aI v4), none, none]) (st' := [aI v4, aR q_S, aI (scr G (v4 + 1)), aR 1]) (show decode (mC 268) 340 = .ok (.iload 4, 2) by decide +kernel) rfl rfl ?_
  refine e_P (st' := [aI 2, aI v4, aR q_S, aI (scr G (v4 + 1)), aR 1]) (show decode (mC 268) 342 = .ok (.iconst 2, 1) by decide +kernel) rfl rfl rfl ?_
  refine e_P (st' := [aI (v4 + 2), aR q_S, aI (scr G (v4 + 1)), aR 1]) (show decode (mC 268) 343 = .ok (.iadd, 1) by decide +kernel) rfl rfl rfl ?_
  refine e_sld (show decode (mC 268) 344 = .ok (.iaload, 1) by decide +kernel) s2 s3 ?_
  exact e_V (as := [aR 1, aI (scr G (v4 + 1)), aI (scr G (v4 + 2))]) (rest := []) (show decode (mC 268) 345 = .ok (.invokevirtual 42, 3) by decide +kernel) (by decide +kernel) (show (decide ((3 : Nat) = mA 119) && decide (119 < q_law)) = true by decide +kernel) rfl (show (0 : Nat) ≤ 8 by decide) (show (3 : Nat) ≤ mL 119 by decide +kernel) rfl (sh_ok hG (by decide +kernel)) m4
theorem b268_348 (hG : Shp G) {v4 u0 : Int}
    (s0 : 0 ≤ (v4 + 1))
    (s1 : (v4 + 1) < (G.2.2.2.2.1 : Int))
    (s2 : 0 ≤ (v4 + 2))
    (s3 : (v4 + 2) < (G.2.2.2.2.1 : Int))
    (m4 : TM (d + 1) 190 [aR 188, aI (scr G (v4 + 1)), aI (scr G (v4 + 2))] (G, c) (fun r h' => T (d + 2) 268 364 [some (aR q_S), some (aR 1), some (aR 188), some (aR 211), some (aI v4), none, none] (r.toList ++ [aI u0]) h' Q)) :
    T (d + 2) 268 348 [some (aR q_S), some (aR 1), some (aR 188), some (aR 211), some (aI v4), none, none] [aI u0] (G, c) Q := by
  refine e_L (L' := [some (aR q_S), some (aR 1), some (aR 188), some (aR 211), some (aI v4), none, none]) (st' := [aR 188, aI u0]) (show decode (mC 268) 348 = .ok (.aload_n 2, 1) by decide +kernel) rfl (by show (if 188 = 0 then none else some (_, _)) = _; rw [if_neg (by decide)]) ?_
  refine e_L (L' := [some (aR q_S), some (aR 1), some (aR 188), some (aR 211), some (aI v4), none, none]) (st' := [aR q_S, aR 188, aI u0]) (show decode (mC 268) 349 = .ok (.aload_n 0, 1) by decide +kernel) rfl (by show (if q_S = 0 then none else some (_, _)) = _; rw [if_neg (by decide)]) ?_
  refine e_L (L' := [some (aR q_S), some (aR 1), some (aR 188), some (aR 211), some (aI v4), none, none]) (st' := [aI v4, aR q_S, aR 188, aI u0]) (show decode (mC 268) 350 = .ok (.iload 4, 2) by decide +kernel) rfl rfl ?_
  refine e_P (st' := [aI 1, aI v4, aR q_S, aR 188, aI u0]) (show decode (mC 268) 352 = .ok (.iconst 1, 1) by decide +kernel) rfl rfl rfl ?_
  refine e_P (st' := [aI (v4 + 1), aR q_S, aR 188, aI u0]) (show decode (mC 268) 353 = .ok (.iadd, 1) by decide +kernel) rfl rfl rfl ?_
  refine e_sld (show decode (mC 268) 354 = .ok (.iaload, 1) by decide +kernel) s0 s1 ?_
  refine e_L (L' := [some (aR q_S), some (aR 1), some (aR 188), some (aR 211), some (aI v4), none, none]) (st' := [aR q_S, aI (scr G (v4 + 1)), aR 188, aI u0]) (show decode (mC 268) 355 = .ok (.aload_n 0, 1) by decide +kernel) rfl (by show (if q_S = 0 then none else some (_, _)) = _; rw [if_neg (by decide)]) ?_
  refine e_L (L' := [some (aR q_S), some (aR 1), some (aR 188), some (aR 211), some (aI v4), none, none]) (st' := [aI v4, aR q_S, aI (scr G (v4 + 1)), aR 188, aI u0]) (show decode (mC 268) 356 = .ok (.iload 4, 2) by decide +kernel) rfl rfl ?_
  refine e_P (st' := [aI 2, aI v4, aR q_S, aI (scr G (v4 + 1)), aR 188, aI u0]) (show decode (mC 268) 358 = .ok (.iconst 2, 1) by decide +kernel) rfl rfl rfl ?_
  refine e_P (st' := [aI (v4 + 2), aR q_S, aI (scr G (v4 + 1)), aR 188, aI u0]) (show decode (mC 268) 359 = .ok (.iadd, 1) by decide +kernel) rfl rfl rfl ?_
  refine e_sld (show decode (mC 268) 360 = .ok (.iaload, 1) by decide +kernel) s2 s3 ?_
  exact e_V (as := [aR 188, aI (scr G (v4 + 1)), aI (scr G (v4 + 2))]) (rest := [aI u0]) (show decode (mC 268) 361 = .ok (.invokevirtual 45, 3) by decide +kernel) (by decide +kernel) (show (decide ((3 : Nat) = mA 190) && decide (190 < q_law)) = true by decide +kernel) rfl (show (1 : Nat) ≤ 8 by decide) (show (3 : Nat) ≤ mL 190 by decide +kernel) rfl (sh_ok hG (by decide +kernel)) m4
theorem b268_364 (hG : Shp G) {v4 u0 u1 : Int}
    (s0 : -2147483648 ≤ u0 ∧ u0 < 2147483648)
    (s1 : -2147483648 ≤ u1 ∧ u1 < 2147483648)
    (k2 : (u0 = u1) → T (d + 2) 268 1328 [some (aR q_S), some (aR 1), some (aR 188), some (aR 211), some (aI v4), none, none] [] (G, c) Q)
    (z3 : (¬ u0 = u1) → Q (.inl (some (aI 0))) (G, c)) :
    T (d + 2) 268 364 [some (aR q_S), some (aR 1), some (aR 188), some (aR 211), some (aI v4), none, none] [aI u1, aI u0] (G, c) Q := by
  refine e_eq2 (t := 1328) (show decode (mC 268) 364 = .ok (.if_icmp .eq 964, 3) by decide +kernel) (by decide) s0 s1 (fun p1 => ?_) (fun p1 => ?_)
  · exact (k2 p1)
  · refine e_P (st' := [aI 0]) (show decode (mC 268) 367 = .ok (.iconst 0, 1) by decide +kernel) rfl rfl rfl ?_
    exact e_zret (show decode (mC 268) 368 = .ok (.ireturn, 1) by decide +kernel) rfl (by decide) (z3 p1)
theorem b268_369 (hG : Shp G) {v4 : Int}
    (s0 : 0 ≤ (v4 + 1))
    (s1 : (v4 + 1) < (G.2.2.2.2.1 : Int))
    (s2 : 0 ≤ (v4 + 2))
    (s3 : (v4 + 2) < (G.2.2.2.2.1 : Int))
    (m4 : TM (d + 1) 120 [aR 1, aI (scr G (v4 + 1)), aI (scr G (v4 + 2))] (G, c) (fun r h' => T (d + 2) 268 385 [some (aR q_S), some (aR 1), some (aR 188), some (aR 211), some (aI v4), none, none] (r.toList ++ []) h' Q)) :
    T (d + 2) 268 369 [some (aR q_S), some (aR 1), some (aR 188), some (aR 211), some (aI v4), none, none] [] (G, c) Q := by
  refine e_L (L' := [some (aR q_S), some (aR 1), some (aR 188), some (aR 211), some (aI v4), none, none]) (st' := [aR 1]) (show decode (mC 268) 369 = .ok (.aload_n 1, 1) by decide +kernel) rfl (by show (if 1 = 0 then none else some (_, _)) = _; rw [if_neg (by decide)]) ?_
  refine e_L (L' := [some (aR q_S), some (aR 1), some (aR 188), some (aR 211), some (aI v4), none, none]) (st' := [aR q_S, aR 1]) (show decode (mC 268) 370 = .ok (.aload_n 0, 1) by decide +kernel) rfl (by show (if q_S = 0 then none else some (_, _)) = _; rw [if_neg (by decide)]) ?_
  refine e_L (L' := [some (aR q_S), some (aR 1), some (aR 188), some (aR 211), some (aI v4), none, none]) (st' := [aI v4, aR q_S, aR 1]) (show decode (mC 268) 371 = .ok (.iload 4, 2) by decide +kernel) rfl rfl ?_
  refine e_P (st' := [aI 1, aI v4, aR q_S, aR 1]) (show decode (mC 268) 373 = .ok (.iconst 1, 1) by decide +kernel) rfl rfl rfl ?_
  refine e_P (st' := [aI (v4 + 1), aR q_S, aR 1]) (show decode (mC 268) 374 = .ok (.iadd, 1) by decide +kernel) rfl rfl rfl ?_
  refine e_sld (show decode (mC 268) 375 = .ok (.iaload, 1) by decide +kernel) s0 s1 ?_
  refine e_L (L' := [some (aR q_S), some (aR 1), some (aR 188), some (aR 211), some (aI v4), none, none]) (st' := [aR q_S, aI (scr G (v4 + 1)), aR 1]) (show decode (mC 268) 376 = .ok (.aload_n 0, 1) by decide +kernel) rfl (by show (if q_S = 0 then none else some (_, _)) = _; rw [if_neg (by decide)]) ?_
  refine e_L (L' := [some (aR q_S), some (aR 1), some (aR 188), some (aR 211), some (aI v4), none, none]) (st' := [aI v4, aR q_S, aI (scr G (v4 + 1)), aR 1]) (show decode (mC 268) 377 = .ok (.iload 4, 2) by decide +kernel) rfl rfl ?_
  refine e_P (st' := [aI 2, aI v4, aR q_S, aI (scr G (v4 + 1)), aR 1]) (show decode (mC 268) 379 = .ok (.iconst 2, 1) by decide +kernel) rfl rfl rfl ?_
  refine e_P (st' := [aI (v4 + 2), aR q_S, aI (scr G (v4 + 1)), aR 1]) (show decode (mC 268) 380 = .ok (.iadd, 1) by decide +kernel) rfl rfl rfl ?_
  refine e_sld (show decode (mC 268) 381 = .ok (.iaload, 1) by decide +kernel) s2 s3 ?_
  exact e_V (as := [aR 1, aI (scr G (v4 + 1)), aI (scr G (v4 + 2))]) (rest := []) (show decode (mC 268) 382 = .ok (.invokevirtual 46, 3) by decide +kernel) (by decide +kernel) (show (decide ((3 : Nat) = mA 120) && decide (120 < q_law)) = true by decide +kernel) rfl (show (0 : Nat) ≤ 8 by decide) (show (3 : Nat) ≤ mL 120 by decide +kernel) rfl (sh_ok hG (by decide +kernel)) m4
theorem b268_385 (hG : Shp G) {v4 u0 : Int}
    (s0 : 0 ≤ (v4 + 1))
    (s1 : (v4 + 1) < (G.2.2.2.2.1 : Int))
    (s2 : 0 ≤ (v4 + 2))
    (s3 : (v4 + 2) < (G.2.2.2.2.1 : Int))
    (m4 : TM (d + 1) 191 [aR 188, aI (scr G (v4 + 1)), aI (scr G (v4 + 2))] (G, c) (fun r h' => T (d + 2) 268 401 [some (aR q_S), some (aR 1), some (aR 188), some (aR 211), some (aI v4), none, none] (r.toList ++ [aI u0]) h' Q)) :
    T (d + 2) 268 385 [some (aR q_S), some (aR 1), some (aR 188), some (aR 211), some (aI v4), none, none] [aI u0] (G, c) Q := by
  refine e_L (L' := [some (aR q_S), some (aR 1), some (aR 188), some (aR 211), some (aI v4), none, none]) (st' := [aR 188, aI u0]) (show decode (mC 268) 385 = .ok (.aload_n 2, 1) by decide +kernel) rfl (by show (if 188 = 0 then none else some (_, _)) = _; rw [if_neg (by decide)]) ?_
  refine e_L (L' := [some (aR q_S), some (aR 1), some (aR 188), some (aR 211), some (aI v4), none, none]) (st' := [aR q_S, aR 188, aI u0]) (show decode (mC 268) 386 = .ok (.aload_n 0, 1) by decide +kernel) rfl (by show (if q_S = 0 then none else some (_, _)) = _; rw [if_neg (by decide)]) ?_
  refine e_L (L' := [some (aR q_S), some (aR 1), some (aR 188), some (aR 211), some (aI v4), none, none]) (st' := [aI v4, aR q_S, aR 188, aI u0]) (show decode (mC 268) 387 = .ok (.iload 4, 2) by decide +kernel) rfl rfl ?_
  refine e_P (st' := [aI 1, aI v4, aR q_S, aR 188, aI u0]) (show decode (mC 268) 389 = .ok (.iconst 1, 1) by decide +kernel) rfl rfl rfl ?_
  refine e_P (st' := [aI (v4 + 1), aR q_S, aR 188, aI u0]) (show decode (mC 268) 390 = .ok (.iadd, 1) by decide +kernel) rfl rfl rfl ?_
  refine e_sld (show decode (mC 268) 391 = .ok (.iaload, 1) by decide +kernel) s0 s1 ?_
  refine e_L (L' := [some (aR q_S), some (aR 1), some (aR 188), some (aR 211), some (aI v4), none, none]) (st' := [aR q_S, aI (scr G (v4 + 1)), aR 188, aI u0]) (show decode (mC 268) 392 = .ok (.aload_n 0, 1) by decide +kernel) rfl (by show (if q_S = 0 then none else some (_, _)) = _; rw [if_neg (by decide)]) ?_
  refine e_L (L' := [some (aR q_S), some (aR 1), some (aR 188), some (aR 211), some (aI v4), none, none]) (st' := [aI v4, aR q_S, aI (scr G (v4 + 1)), aR 188, aI u0]) (show decode (mC 268) 393 = .ok (.iload 4, 2) by decide +kernel) rfl rfl ?_
  refine e_P (st' := [aI 2, aI v4, aR q_S, aI (scr G (v4 + 1)), aR 188, aI u0]) (show decode (mC 268) 395 = .ok (.iconst 2, 1) by decide +kernel) rfl rfl rfl ?_
  refine e_P (st' := [aI (v4 + 2), aR q_S, aI (scr G (v4 + 1)), aR 188, aI u0]) (show decode (mC 268) 396 = .ok (.iadd, 1) by decide +kernel) rfl rfl rfl ?_
  refine e_sld (show decode (mC 268) 397 = .ok (.iaload, 1) by decide +kernel) s2 s3 ?_
  exact e_V (as := [aR 188, aI (scr G (v4 + 1)), aI (scr G (v4 + 2))]) (rest := [aI u0]) (show decode (mC 268) 398 = .ok (.invokevirtual 49, 3) by decide +kernel) (by decide +kernel) (show (decide ((3 : Nat) = mA 191) && decide (191 < q_law)) = true by decide +kernel) rfl (show (1 : Nat) ≤ 8 by decide) (show (3 : Nat) ≤ mL 191 by decide +kernel) rfl (sh_ok hG (by decide +kernel)) m4
theorem b268_401 (hG : Shp G) {v4 u0 u1 : Int}
    (s0 : -2147483648 ≤ u0 ∧ u0 < 2147483648)
    (s1 : -2147483648 ≤ u1 ∧ u1 < 2147483648)
    (k2 : (u0 = u1) → T (d + 2) 268 1328 [some (aR q_S), some (aR 1), some (aR 188), some (aR 211), some (aI v4), none, none] [] (G, c) Q)
    (z3 : (¬ u0 = u1) → Q (.inl (some (aI 0))) (G, c)) :
    T (d + 2) 268 401 [some (aR q_S), some (aR 1), some (aR 188), some (aR 211), some (aI v4), none, none] [aI u1, aI u0] (G, c) Q := by
  refine e_eq2 (t := 1328) (show decode (mC 268) 401 = .ok (.if_icmp .eq 927, 3) by decide +kernel) (by decide) s0 s1 (fun p1 => ?_) (fun p1 => ?_)
  · exact (k2 p1)
  · refine e_P (st' := [aI 0]) (show decode (mC 268) 404 = .ok (.iconst 0, 1) by decide +kernel) rfl rfl rfl ?_
    exact e_zret (show decode (mC 268) 405 = .ok (.ireturn, 1) by decide +kernel) rfl (by decide) (z3 p1)
theorem b268_406 (hG : Shp G) {v4 : Int}
    (s0 : 0 ≤ (v4 + 1))
    (s1 : (v4 + 1) < (G.2.2.2.2.1 : Int))
    (s2 : 0 ≤ (v4 + 2))
    (s3 : (v4 + 2) < (G.2.2.2.2.1 : Int))
    (m4 : T d 121 0 (q_ent 121 [aR 1, aI (scr G (v4 + 1)), aI (scr G (v4 + 2))]) [] (G, c) (QX (fun r h1 => ∃ c1, ∃ v : Int, r = some (aI v) ∧ I32 v ∧ h1 = (G, c1) ∧ T (d + 2) 268 423 [some (aR q_S), some (aR 1), some (aR 188), some (aR 211), some (aI v4), none, none] [aI 0] (G, q_up c1 211 0 v) Q) (fun h1 => ∃ c1, h1 = (G, c1) ∧ T (d + 2) 268 423 [some (aR q_S), some (aR 1), some (aR 188), some (aR 211), some (aI v4), none, none] [aI 1] (G, q_up c1 0 0 (c1 0 0 + 1)) Q))) :
    T (d + 2) 268 406 [some (aR q_S), some (aR 1), some (aR 188), some (aR 211), some (aI v4), none, none] [] (G, c) Q := by
  refine e_L (L' := [some (aR q_S), some (aR 1), some (aR 188), some (aR 211), some (aI v4), none, none]) (st' := [aR 1]) (show decode (mC 268) 406 = .ok (.aload_n 1, 1) by decide +kernel) rfl (by show (if 1 = 0 then none else some (_, _)) = _; rw [if_neg (by decide)]) ?_
  refine e_L (L' := [some (aR q_S), some (aR 1), some (aR 188), some (aR 211), some (aI v4), none, none]) (st' := [aR q_S, aR 1]) (show decode (mC 268) 407 = .ok (.aload_n 0, 1) by decide +kernel) rfl (by show (if q_S = 0 then none else some (_, _)) = _; rw [if_neg (by decide)]) ?_
  refine e_L (L' := [some (aR q_S), some (aR 1), some (aR 188), some (aR 211), some (aI v4), none, none]) (st' := [aI v4, aR q_S, aR 1]) (show decode (mC 268) 408 = .ok (.iload 4, 2) by decide +kernel) rfl rfl ?_
  refine e_P (st' := [aI 1, aI v4, aR q_S, aR 1]) (show decode (mC 268) 410 = .ok (.iconst 1, 1) by decide +kernel) rfl rfl rfl ?_
  refine e_P (st' := [aI (v4 + 1), aR q_S, aR 1]) (show decode (mC 268) 411 = .ok (.iadd, 1) by decide +kernel) rfl rfl rfl ?_
  refine e_sld (show decode (mC 268) 412 = .ok (.iaload, 1) by decide +kernel) s0 s1 ?_
  refine e_L (L' := [some (aR q_S), some (aR 1), some (aR 188), some (aR 211), some (aI v4), none, none]) (st' := [aR q_S, aI (scr G (v4 + 1)), aR 1]) (show decode (mC 268) 413 = .ok (.aload_n 0, 1) by decide +kernel) rfl (by show (if q_S = 0 then none else some (_, _)) = _; rw [if_neg (by decide)]) ?_
  refine e_L (L' := [some (aR q_S), some (aR 1), some (aR 188), some (aR 211), some (aI v4), none, none]) (st' := [aI v4, aR q_S, aI (scr G (v4 + 1)), aR 1]) (show decode (mC 268) 414 = .ok (.iload 4, 2) by decide +kernel) rfl rfl ?_
  refine e_P (st' := [aI 2, aI v4, aR q_S, aI (scr G (v4 + 1)), aR 1]) (show decode (mC 268) 416 = .ok (.iconst 2, 1) by decide +kernel) rfl rfl rfl ?_
  refine e_P (st' := [aI (v4 + 2), aR q_S, aI (scr G (v4 + 1)), aR 1]) (show decode (mC 268) 417 = .ok (.iadd, 1) by decide +kernel) rfl rfl rfl ?_
  refine e_sld (show decode (mC 268) 418 = .ok (.iaload, 1) by decide +kernel) s2 s3 ?_
  refine e_L (L' := [some (aR q_S), some (aR 1), some (aR 188), some (aR 211), some (aI v4), none, none]) (st' := [aR 211, aI (scr G (v4 + 2)), aI (scr G (v4 + 1)), aR 1]) (show decode (mC 268) 419 = .ok (.aload_n 3, 1) by decide +kernel) rfl (by show (if 211 = 0 then none else some (_, _)) = _; rw [if_neg (by decide)]) ?_
  exact e_XL (as := [aI (scr G (v4 + 1)), aI (scr G (v4 + 2))]) hG (show decode (mC 268) 420 = .ok (.invokestatic 50, 3) by decide +kernel) (by decide +kernel) (show (decide ((3 : Nat) = mA 121) && decide (121 < q_law)) = true by decide +kernel) rfl rfl (show (3 : Nat) ≤ mL 121 by decide +kernel) m4
theorem b268_423 (hG : Shp G) {v4 u0 : Int}
    (s0 : 0 ≤ (v4 + 1))
    (s1 : (v4 + 1) < (G.2.2.2.2.1 : Int))
    (s2 : 0 ≤ (v4 + 2))
    (s3 : (v4 + 2) < (G.2.2.2.2.1 : Int))
    (m4 : TM (d + 1) 194 [aR 188, aI (scr G (v4 + 1)), aI (scr G (v4 + 2))] (G, c) (fun r h' => T (d + 2) 268 441 [some (aR q_S), some (aR 1), some (aR 188), some (aR 211), some (aI v4), some (aI u0), none] (r.toList ++ []) h' Q)) :
    T (d + 2) 268 423 [some (aR q_S), some (aR 1), some (aR 188), some (aR 211), some (aI v4), none, none] [aI u0] (G, c) Q := by
  refine e_L (L' := [some (aR q_S), some (aR 1), some (aR 188), some (aR 211), some (aI v4), some (aI u0), none]) (st' := []) (show decode (mC 268) 423 = .ok (.istore 5, 2) by decide +kernel) rfl rfl ?_
  refine e_L (L' := [some (aR q_S), some (aR 1), some (aR 188), some (aR 211), some (aI v4), some (aI u0), none]) (st' := [aR 188]) (show decode (mC 268) 425 = .ok (.aload_n 2, 1) by decide +kernel) rfl (by show (if 188 = 0 then none else some (_, _)) = _; rw [if_neg (by decide)]) ?_
  refine e_L (L' := [some (aR q_S), some (aR 1), some (aR 188), some (aR 211), some (aI v4), some (aI u0), none]) (st' := [aR q_S, aR 188]) (show decode (mC 268) 426 = .ok (.aload_n 0, 1) by decide +kernel) rfl (by show (if q_S = 0 then none else some (_, _)) = _; rw [if_neg (by decide)]) ?_
  refine e_L (L' := [some (aR q_S), some (aR 1), some (aR 188), some (aR 211), some (aI v4), some (aI u0), none]) (st' := [aI v4, aR q_S, aR 188]) (show decode (mC 268) 427 = .ok (.iload 4, 2) by decide +kernel) rfl rfl ?_
  refine e_P (st' := [aI 1, aI v4, aR q_S, aR 188]) (show decode (mC 268) 429 = .ok (.iconst 1, 1) by decide +kernel) rfl rfl rfl ?_
  refine e_P (st' := [aI (v4 + 1), aR q_S, aR 188]) (show decode (mC 268) 430 = .ok (.iadd, 1) by decide +kernel) rfl rfl rfl ?_
  refine e_sld (show decode (mC 268) 431 = .ok (.iaload, 1) by decide +kernel) s0 s1 ?_
  refine e_L (L' := [some (aR q_S), some (aR 1), some (aR 188), some (aR 211), some (aI v4), some (aI u0), none]) (st' := [aR q_S, aI (scr G (v4 + 1)), aR 188]) (show decode (mC 268) 432 = .ok (.aload_n 0, 1) by decide +kernel) rfl (by show (if q_S = 0 then none else some (_, _)) = _; rw [if_neg (by decide)]) ?_
  refine e_L (L' := [some (aR q_S), some (aR 1), some (aR 188), some (aR 211), some (aI v4), some (aI u0), none]) (st' := [aI v4, aR q_S, aI (scr G (v4 + 1)), aR 188]) (show decode (mC 268) 433 = .ok (.iload 4, 2) by decide +kernel) rfl rfl ?_
  refine e_P (st' := [aI 2, aI v4, aR q_S, aI (scr G (v4 + 1)), aR 188]) (show decode (mC 268) 435 = .ok (.iconst 2, 1) by decide +kernel) rfl rfl rfl ?_
  refine e_P (st' := [aI (v4 + 2), aR q_S, aI (scr G (v4 + 1)), aR 188]) (show decode (mC 268) 436 = .ok (.iadd, 1) by decide +kernel) rfl rfl rfl ?_
  refine e_sld (show decode (mC 268) 437 = .ok (.iaload, 1) by decide +kernel) s2 s3 ?_
  exact e_V (as := [aR 188, aI (scr G (v4 + 1)), aI (scr G (v4 + 2))]) (rest := []) (show decode (mC 268) 438 = .ok (.invokevirtual 55, 3) by decide +kernel) (by decide +kernel) (show (decide ((3 : Nat) = mA 194) && decide (194 < q_law)) = true by decide +kernel) rfl (show (0 : Nat) ≤ 8 by decide) (show (3 : Nat) ≤ mL 194 by decide +kernel) rfl (sh_ok hG (by decide +kernel)) m4
theorem b268_441 (hG : Shp G) {v4 v5 u0 : Int}
    (m0 : TM (d + 1) 158 [aR 188] (G, c) (fun r h' => T (d + 2) 268 447 [some (aR q_S), some (aR 1), some (aR 188), some (aR 211), some (aI v4), some (aI v5), some (aI u0)] (r.toList ++ []) h' Q)) :
    T (d + 2) 268 441 [some (aR q_S), some (aR 1), some (aR 188), some (aR 211), some (aI v4), some (aI v5), none] [aI u0] (G, c) Q := by
  refine e_L (L' := [some (aR q_S), some (aR 1), some (aR 188), some (aR 211), some (aI v4), some (aI v5), some (aI u0)]) (st' := []) (show decode (mC 268) 441 = .ok (.istore 6, 2) by decide +kernel) rfl rfl ?_
  refine e_L (L' := [some (aR q_S), some (aR 1), some (aR 188), some (aR 211), some (aI v4), some (aI v5), some (aI u0)]) (st' := [aR 188]) (show decode (mC 268) 443 = .ok (.aload_n 2, 1) by decide +kernel) rfl (by show (if 188 = 0 then none else some (_, _)) = _; rw [if_neg (by decide)]) ?_
  exact e_V (as := [aR 188]) (rest := []) (show decode (mC 268) 444 = .ok (.invokevirtual 56, 3) by decide +kernel) (by decide +kernel) (show (decide ((1 : Nat) = mA 158) && decide (158 < q_law)) = true by decide +kernel) rfl (show (0 : Nat) ≤ 8 by decide) (show (1 : Nat) ≤ mL 158 by decide +kernel) rfl (sh_ok hG (by decide +kernel)) m0
theorem b268_447 (hG : Shp G) {v4 v5 v6 u0 x1 : Int} (hQ : ∀ o o' h', q_eqo o o' → Q o h' → Q o' h')
    (s0 : -2147483648 ≤ u0 ∧ u0 < 2147483648)
    (s1 : -2147483648 ≤ v5 ∧ v5 < 2147483648)
    (k2 : (u0 = v5) → (¬ v5 = 0) → T (d + 2) 268 1328 [some (aR q_S), some (aR 1), some (aR 188), some (aR 211), some (aI v4), none, none] [] (G, c) Q)
    (ex1 : c 211 0 = x1)
    (s4 : (u0 = v5) → (v5 = 0) → -2147483648 ≤ v6 ∧ v6 < 2147483648)
    (s5 : (u0 = v5) → (v5 = 0) → -9223372036854775808 ≤ x1 ∧ x1 < 9223372036854775808)
    (s6 : (u0 = v5) → (v5 = 0) → -9223372036854775808 ≤ v6 ∧ v6 < 9223372036854775808)
    (s7 : (u0 = v5) → (v5 = 0) → -2147483648 ≤ (if x1 < v6 then (-1 : Int) else if x1 = v6 then 0 else 1) ∧ (if x1 < v6 then (-1 : Int) else if x1 = v6 then 0 else 1) < 2147483648)
    (k8 : (u0 = v5) → (v5 = 0) → ((if x1 < v6 then (-1 : Int) else if x1 = v6 then 0 else 1) = 0) → T (d + 2) 268 1328 [some (aR q_S), some (aR 1), some (aR 188), some (aR 211), some (aI v4), none, none] [] (G, c) Q)
    (z9 : (u0 = v5) → (v5 = 0) → (¬ (if x1 < v6 then (-1 : Int) else if x1 = v6 then 0 else 1) = 0) → Q (.inl (some (aI 0))) (G, c))
    (z10 : (¬ u0 = v5) → Q (.inl (some (aI 0))) (G, c)) :
    T (d + 2) 268 447 [some (aR q_S), some (aR 1), some (aR 188), some (aR 211), some (aI v4), some (aI v5), some (aI v6)] [aI u0] (G, c) Q := by
  refine e_L (L' := [some (aR q_S), some (aR 1), some (aR 188), some (aR 211), some (aI v4), some (aI v5), some (aI v6)]) (st' := [aI v5, aI u0]) (show decode (mC 268) 447 = .ok (.iload 5, 2) by decide +kernel) rfl rfl ?_
  refine e_eq2 (t := 454) (show decode (mC 268) 449 = .ok (.if_icmp .eq 5, 3) by decide +kernel) (by decide) s0 s1 (fun p1 => ?_) (fun p1 => ?_)
  · refine e_L (L' := [some (aR q_S), some (aR 1), some (aR 188), some (aR 211), some (aI v4), some (aI v5), some (aI v6)]) (st' := [aI v5]) (show decode (mC 268) 454 = .ok (.iload 5, 2) by decide +kernel) rfl rfl ?_
    refine e_ne1 (t := 471) (show decode (mC 268) 456 = .ok (.ifCond .ne 15, 3) by decide +kernel) (by decide) s1 (fun p2 => ?_) (fun p2 => ?_)
    · refine e_go (t := 1328) (show decode (mC 268) 471 = .ok (.goto 857, 3) by decide +kernel) (by decide) ?_
      exact T_le hQ (leS (leS (leS (leS (leS (leN (leN leE))))))) (k2 p1 p2)
    · refine e_L (L' := [some (aR q_S), some (aR 1), some (aR 188), some (aR 211), some (aI v4), some (aI v5), some (aI v6)]) (st' := [aR 211]) (show decode (mC 268) 459 = .ok (.aload_n 3, 1) by decide +kernel) rfl (by show (if 211 = 0 then none else some (_, _)) = _; rw [if_neg (by decide)]) ?_
      refine e_P (st' := [aI 0, aR 211]) (show decode (mC 268) 460 = .ok (.iconst 0, 1) by decide +kernel) rfl rfl rfl ?_
      refine e_laldx (n := 1) (show decode (mC 268) 461 = .ok (.laload, 1) by decide +kernel) (sh_ok hG (by decide +kernel)) (sh_ln hG (by decide +kernel)) (by decide) (by decide) (by decide) ex1 ?_
      refine e_L (L' := [some (aR q_S), some (aR 1), some (aR 188), some (aR 211), some (aI v4), some (aI v5), some (aI v6)]) (st' := [aI v6, aL x1]) (show decode (mC 268) 462 = .ok (.iload 6, 2) by decide +kernel) rfl rfl ?_
      refine e_i2l (show decode (mC 268) 464 = .ok (.i2l, 1) by decide +kernel) (s4 p1 p2) ?_
      refine e_lcmp (show decode (mC 268) 465 = .ok (.lcmp, 1) by decide +kernel) (s5 p1 p2) (s6 p1 p2) ?_
      refine e_eq1 (t := 471) (show decode (mC 268) 466 = .ok (.ifCond .eq 5, 3) by decide +kernel) (by decide) (s7 p1 p2) (fun p3 => ?_) (fun p3 => ?_)
      · refine e_go (t := 1328) (show decode (mC 268) 471 = .ok (.goto 857, 3) by decide +kernel) (by decide) ?_
        exact T_le hQ (leS (leS (leS (leS (leS (leN (leN leE))))))) (k8 p1 p2 p3)
      · refine e_P (st' := [aI 0]) (show decode (mC 268) 469 = .ok (.iconst 0, 1) by decide +kernel) rfl rfl rfl ?_
        exact e_zret (show decode (mC 268) 470 = .ok (.ireturn, 1) by decide +kernel) rfl (by decide) (z9 p1 p2 p3)
  · refine e_P (st' := [aI 0]) (show decode (mC 268) 452 = .ok (.iconst 0, 1) by decide +kernel) rfl rfl rfl ?_
    exact e_zret (show decode (mC 268) 453 = .ok (.ireturn, 1) by decide +kernel) rfl (by decide) (z10 p1)
theorem b268_474 (hG : Shp G) {v4 : Int}
    (s0 : 0 ≤ (v4 + 1))
    (s1 : (v4 + 1) < (G.2.2.2.2.1 : Int))
    (s2 : 0 ≤ (v4 + 2))
    (s3 : (v4 + 2) < (G.2.2.2.2.1 : Int))
    (m4 : TM (d + 1) 122 [aR 1, aI (scr G (v4 + 1)), aI (scr G (v4 + 2))] (G, c) (fun r h' => T (d + 2) 268 490 [some (aR q_S), some (aR 1), some (aR 188), some (aR 211), some (aI v4), none, none] (r.toList ++ []) h' Q)) :
    T (d + 2) 268 474 [some (aR q_S), some (aR 1), some (aR 188), some (aR 211), some (aI v4), none, none] [] (G, c) Q := by
  refine e_L (L' := [some (aR q_S), some (aR 1), some (aR 188), some (aR 211), some (aI v4), none, none]) (st' := [aR 1]) (show decode (mC 268) 474 = .ok (.aload_n 1, 1) by decide +kernel) rfl (by show (if 1 = 0 then none else some (_, _)) = _; rw [if_neg (by decide)]) ?_
  refine e_L (L' := [some (aR q_S), some (aR 1), some (aR 188), some (aR 211), some (aI v4), none, none]) (st' := [aR q_S, aR 1]) (show decode (mC 268) 475 = .ok (.aload_n 0, 1) by decide +kernel) rfl (by show (if q_S = 0 then none else some (_, _)) = _; rw [if_neg (by decide)]) ?_
  refine e_L (L' := [some (aR q_S), some (aR 1), some (aR 188), some (aR 211), some (aI v4), none, none]) (st' := [aI v4, aR q_S, aR 1]) (show decode (mC 268) 476 = .ok (.iload 4, 2) by decide +kernel) rfl rfl ?_
  refine e_P (st' := [aI 1, aI v4, aR q_S, aR 1]) (show decode (mC 268) 478 = .ok (.iconst 1, 1) by decide +kernel) rfl rfl rfl ?_
  refine e_P (st' := [aI (v4 + 1), aR q_S, aR 1]) (show decode (mC 268) 479 = .ok (.iadd, 1) by decide +kernel) rfl rfl rfl ?_
  refine e_sld (show decode (mC 268) 480 = .ok (.iaload, 1) by decide +kernel) s0 s1 ?_
  refine e_L (L' := [some (aR q_S), some (aR 1), some (aR 188), some (aR 211), some (aI v4), none, none]) (st' := [aR q_S, aI (scr G (v4 + 1)), aR 1]) (show decode (mC 268) 481 = .ok (.aload_n 0, 1) by decide +kernel) rfl (by show (if q_S = 0 then none else some (_, _)) = _; rw [if_neg (by decide)]) ?_
  refine e_L (L' := [some (aR q_S), some (aR 1), some (aR 188), some (aR 211), some (aI v4), none, none]) (st' := [aI v4, aR q_S, aI (scr G (v4 + 1)), aR 1]) (show decode (mC 268) 482 = .ok (.iload 4, 2) by decide +kernel) rfl rfl ?_
  refine e_P (st' := [aI 2, aI v4, aR q_S, aI (scr G (v4 + 1)), aR 1]) (show decode (mC 268) 484 = .ok (.iconst 2, 1) by decide +kernel) rfl rfl rfl ?_
  refine e_P (st' := [aI (v4 + 2), aR q_S, aI (scr G (v4 + 1)), aR 1]) (show decode (mC 268) 485 = .ok (.iadd, 1) by decide +kernel) rfl rfl rfl ?_
  refine e_sld (show decode (mC 268) 486 = .ok (.iaload, 1) by decide +kernel) s2 s3 ?_
  exact e_V (as := [aR 1, aI (scr G (v4 + 1)), aI (scr G (v4 + 2))]) (rest := []) (show decode (mC 268) 487 = .ok (.invokevirtual 59, 3) by decide +kernel) (by decide +kernel) (show (decide ((3 : Nat) = mA 122) && decide (122 < q_law)) = true by decide +kernel) rfl (show (0 : Nat) ≤ 8 by decide) (show (3 : Nat) ≤ mL 122 by decide +kernel) rfl (sh_ok hG (by decide +kernel)) m4
theorem b268_490 (hG : Shp G) {v4 u0 : Int}
    (s0 : 0 ≤ (v4 + 1))
    (s1 : (v4 + 1) < (G.2.2.2.2.1 : Int))
    (s2 : 0 ≤ (v4 + 2))
    (s3 : (v4 + 2) < (G.2.2.2.2.1 : Int))
    (m4 : TM (d + 1) 195 [aR 188, aI (scr G (v4 + 1)), aI (scr G (v4 + 2))] (G, c) (fun r h' => T (d + 2) 268 506 [some (aR q_S), some (aR 1), some (aR 188), some (aR 211), some (aI v4), none, none] (r.toList ++ [aI u0]) h' Q)) :
    T (d + 2) 268 490 [some (aR q_S), some (aR 1), some (aR 188), some (aR 211), some (aI v4), none, none] [aI u0] (G, c) Q := by
  refine e_L (L' := [some (aR q_S), some (aR 1), some (aR 188), some (aR 211), some (aI v4), none, none]) (st' := [aR 188, aI u0]) (show decode (mC 268) 490 = .ok (.aload_n 2, 1) by decide +kernel) rfl (by show (if 188 = 0 then none else some (_, _)) = _; rw [if_neg (by decide)]) ?_
  refine e_L (L' := [some (aR q_S), some (aR 1), some (aR 188), some (aR 211), some (aI v4), none, none]) (st' := [aR q_S, aR 188, aI u0]) (show decode (mC 268) 491 = .ok (.aload_n 0, 1) by decide +kernel) rfl (by show (if q_S = 0 then none else some (_, _)) = _; rw [if_neg (by decide)]) ?_
  refine e_L (L' := [some (aR q_S), some (aR 1), some (aR 188), some (aR 211), some (aI v4), none, none]) (st' := [aI v4, aR q_S, aR 188, aI u0]) (show decode (mC 268) 492 = .ok (.iload 4, 2) by decide +kernel) rfl rfl ?_
  refine e_P (st' := [aI 1, aI v4, aR q_S, aR 188, aI u0]) (show decode (mC 268) 494 = .ok (.iconst 1, 1) by decide +kernel) rfl rfl rfl ?_
  refine e_P (st' := [aI (v4 + 1), aR q_S, aR 188, aI u0]) (show decode (mC 268) 495 = .ok (.iadd, 1) by decide +kernel) rfl rfl rfl ?_
  refine e_sld (show decode (mC 268) 496 = .ok (.iaload, 1) by decide +kernel) s0 s1 ?_
  refine e_L (L' := [some (aR q_S), some (aR 1), some (aR 188), some (aR 211), some (aI v4), none, none]) (st' := [aR q_S, aI (scr G (v4 + 1)), aR 188, aI u0]) (show decode (mC 268) 497 = .ok (.aload_n 0, 1) by decide +kernel) rfl (by show (if q_S = 0 then none else some (_, _)) = _; rw [if_neg (by decide)]) ?_
  refine e_L (L' := [some (aR q_S), some (aR 1), some (aR 188), some (aR 211), some (aI v4), none, none]) (st' := [aI v4, aR q_S, aI (scr G (v4 + 1)), aR 188, aI u0]) (show decode (mC 268) 498 = .ok (.iload 4, 2) by decide +kernel) rfl rfl ?_
  refine e_P (st' := [aI 2, aI v4, aR q_S, aI (scr G (v4 + 1)), aR 188, aI u0]) (show decode (mC 268) 500 = .ok (.iconst 2, 1) by decide +kernel) rfl rfl rfl ?_
  refine e_P (st' := [aI (v4 + 2), aR q_S, aI (scr G (v4 + 1)), aR 188, aI u0]) (show decode (mC 268) 501 = .ok (.iadd, 1) by decide +kernel) rfl rfl rfl ?_
  refine e_sld (show decode (mC 268) 502 = .ok (.iaload, 1) by decide +kernel) s2 s3 ?_
  exact e_V (as := [aR 188, aI (scr G (v4 + 1)), aI (scr G (v4 + 2))]) (rest := [aI u0]) (show decode (mC 268) 503 = .ok (.invokevirtual 62, 3) by decide +kernel) (by decide +kernel) (show (decide ((3 : Nat) = mA 195) && decide (195 < q_law)) = true by decide +kernel) rfl (show (1 : Nat) ≤ 8 by decide) (show (3 : Nat) ≤ mL 195 by decide +kernel) rfl (sh_ok hG (by decide +kernel)) m4
theorem b268_506 (hG : Shp G) {v4 u0 u1 : Int}
    (s0 : -2147483648 ≤ u0 ∧ u0 < 2147483648)
    (s1 : -2147483648 ≤ u1 ∧ u1 < 2147483648)
    (k2 : (u0 = u1) → T (d + 2) 268 1328 [some (aR q_S), some (aR 1), some (aR 188), some (aR 211), some (aI v4), none, none] [] (G, c) Q)
    (z3 : (¬ u0 = u1) → Q (.inl (some (aI 0))) (G, c)) :
    T (d + 2) 268 506 [some (aR q_S), some (aR 1), some (aR 188), some (aR 211), some (aI v4), none, none] [aI u1, aI u0] (G, c) Q := by
  refine e_eq2 (t := 1328) (show decode (mC 268) 506 = .ok (.if_icmp .eq 822, 3) by decide +kernel) (by decide) s0 s1 (fun p1 => ?_) (fun p1 => ?_)
  · exact (k2 p1)
  · refine e_P (st' := [aI 0]) (show decode (mC 268) 509 = .ok (.iconst 0, 1) by decide +kernel) rfl rfl rfl ?_
    exact e_zret (show decode (mC 268) 510 = .ok (.ireturn, 1) by decide +kernel) rfl (by decide) (z3 p1)
theorem b268_511 (hG : Shp G) {v4 : Int}
    (s0 : 0 ≤ (v4 + 1))
    (s1 : (v4 + 1) < (G.2.2.2.2.1 : Int))
    (m2 : TM (d + 1) 123 [aR 1, aI (scr G (v4 + 1))] (G, c) (fun r h' => T (d + 2) 268 521 [some (aR q_S), some (aR 1), some (aR 188), some (aR 211), some (aI v4), none, none] (r.toList ++ []) h' Q)) :
    T (d + 2) 268 511 [some (aR q_S), some (aR 1), some (aR 188), some (aR 211), some (aI v4), none, none] [] (G, c) Q := by
  refine e_L (L' := [some (aR q_S), some (aR 1), some (aR 188), some (aR 211), some (aI v4), none, none]) (st' := [aR 1]) (show decode (mC 268) 511 = .ok (.aload_n 1, 1) by decide +kernel) rfl (by show (if 1 = 0 then none else some (_, _)) = _; rw [if_neg (by decide)]) ?_
  refine e_L (L' := [some (aR q_S), some (aR 1), some (aR 188), some (aR 211), some (aI v4), none, none]) (st' := [aR q_S, aR 1]) (show decode (mC 268) 512 = .ok (.aload_n 0, 1) by decide +kernel) rfl (by show (if q_S = 0 then none else some (_, _)) = _; rw [if_neg (by decide)]) ?_
  refine e_L (L' := [some (aR q_S), some (aR 1), some (aR 188), some (aR 211), some (aI v4), none, none]) (st' := [aI v4, aR q_S, aR 1]) (show decode (mC 268) 513 = .ok (.iload 4, 2) by decide +kernel) rfl rfl ?_
  refine e_P (st' := [aI 1, aI v4, aR q_S, aR 1]) (show decode (mC 268) 515 = .ok (.iconst 1, 1) by decide +kernel) rfl rfl rfl ?_
  refine e_P (st' := [aI (v4 + 1), aR q_S, aR 1]) (show decode (mC 268) 516 = .ok (.iadd, 1) by decide +kernel) rfl rfl rfl ?_
  refine e_sld (show decode (mC 268) 517 = .ok (.iaload, 1) by decide +kernel) s0 s1 ?_
  exact e_V (as := [aR 1, aI (scr G (v4 + 1))]) (rest := []) (show decode (mC 268) 518 = .ok (.invokevirtual 63, 3) by decide +kernel) (by decide +kernel) (show (decide ((2 : Nat) = mA 123) && decide (123 < q_law)) = true by decide +kernel) rfl (show (0 : Nat) ≤ 8 by decide) (show (2 : Nat) ≤ mL 123 by decide +kernel) rfl (sh_ok hG (by decide +kernel)) m2
theorem b268_521 (hG : Shp G) {v4 u0 : Int}
    (s0 : 0 ≤ (v4 + 1))
    (s1 : (v4 + 1) < (G.2.2.2.2.1 : Int))
    (m2 : TM (d + 1) 197 [aR 188, aI (scr G (v4 + 1))] (G, c) (fun r h' => T (d + 2) 268 531 [some (aR q_S), some (aR 1), some (aR 188), some (aR 211), some (aI v4), none, none] (r.toList ++ [aI u0]) h' Q)) :
    T (d + 2) 268 521 [some (aR q_S), some (aR 1), some (aR 188), some (aR 211), some (aI v4), none, none] [aI u0] (G, c) Q := by
  refine e_L (L' := [some (aR q_S), some (aR 1), some (aR 188), some (aR 211), some (aI v4), none, none]) (st' := [aR 188, aI u0]) (show decode (mC 268) 521 = .ok (.aload_n 2, 1) by decide +kernel) rfl (by show (if 188 = 0 then none else some (_, _)) = _; rw [if_neg (by decide)]) ?_
  refine e_L (L' := [some (aR q_S), some (aR 1), some (aR 188), some (aR 211), some (aI v4), none, none]) (st' := [aR q_S, aR 188, aI u0]) (show decode (mC 268) 522 = .ok (.aload_n 0, 1) by decide +kernel) rfl (by show (if q_S = 0 then none else some (_, _)) = _; rw [if_neg (by decide)]) ?_
  refine e_L (L' := [some (aR q_S), some (aR 1), some (aR 188), some (aR 211), some (aI v4), none, none]) (st' := [aI v4, aR q_S, aR 188, aI u0]) (show decode (mC 268) 523 = .ok (.iload 4, 2) by decide +kernel) rfl rfl ?_
  refine e_P (st' := [aI 1, aI v4, aR q_S, aR 188, aI u0]) (show decode (mC 268) 525 = .ok (.iconst 1, 1) by decide +kernel) rfl rfl rfl ?_
  refine e_P (st' := [aI (v4 + 1), aR q_S, aR 188, aI u0]) (show decode (mC 268) 526 = .ok (.iadd, 1) by decide +kernel) rfl rfl rfl ?_
  refine e_sld (show decode (mC 268) 527 = .ok (.iaload, 1) by decide +kernel) s0 s1 ?_
  exact e_V (as := [aR 188, aI (scr G (v4 + 1))]) (rest := [aI u0]) (show decode (mC 268) 528 = .ok (.invokevirtual 66, 3) by decide +kernel) (by decide +kernel) (show (decide ((2 : Nat) = mA 197) && decide (197 < q_law)) = true by decide +kernel) rfl (show (1 : Nat) ≤ 8 by decide) (show (2 : Nat) ≤ mL 197 by decide +kernel) rfl (sh_ok hG (by decide +kernel)) m2
theorem b268_531 (hG : Shp G) {v4 u0 u1 : Int}
    (s0 : -2147483648 ≤ u0 ∧ u0 < 2147483648)
    (s1 : -2147483648 ≤ u1 ∧ u1 < 2147483648)
    (k2 : (u0 = u1) → T (d + 2) 268 1328 [some (aR q_S), some (aR 1), some (aR 188), some (aR 211), some (aI v4), none, none] [] (G, c) Q)
    (z3 : (¬ u0 = u1) → Q (.inl (some (aI 0))) (G, c)) :
    T (d + 2) 268 531 [some (aR q_S), some (aR 1), some (aR 188), some (aR 211), some (aI v4), none, none] [aI u1, aI u0] (G, c) Q := by
  refine e_eq2 (t := 1328) (show decode (mC 268) 531 = .ok (.if_icmp .eq 797, 3) by decide +kernel) (by decide) s0 s1 (fun p1 => ?_) (fun p1 => ?_)
  · exact (k2 p1)
  · refine e_P (st' := [aI 0]) (show decode (mC 268) 534 = .ok (.iconst 0, 1) by decide +kernel) rfl rfl rfl ?_
    exact e_zret (show decode (mC 268) 535 = .ok (.ireturn, 1) by decide +kernel) rfl (by decide) (z3 p1)
theorem b268_536 (hG : Shp G) {v4 : Int}
    (s0 : 0 ≤ (v4 + 1))
    (s1 : (v4 + 1) < (G.2.2.2.2.1 : Int))
    (s2 : 0 ≤ (v4 + 2))
    (s3 : (v4 + 2) < (G.2.2.2.2.1 : Int))
    (m4 : TM (d + 1) 126 [aR 1, aI (scr G (v4 + 1)), aI (scr G (v4 + 2))] (G, c) (fun r h' => T (d + 2) 268 552 [some (aR q_S), some (aR 1), some (aR 188), some (aR 211), some (aI v4), none, none] (r.toList ++ []) h' Q)) :
    T (d + 2) 268 536 [some (aR q_S), some (aR 1), some (aR 188), some (aR 211), some (aI v4), none, none] [] (G, c) Q := by
  refine e_L (L' := [some (aR q_S), some (aR 1), some (aR 188), some (aR 211), some (aI v4), none, none]) (st' := [aR 1]) (show decode (mC 268) 536 = .ok (.aload_n 1, 1) by decide +kernel) rfl (by show (if 1 = 0 then none else some (_, _)) = _; rw [if_neg (by decide)]) ?_
  refine e_L (L' := [some (aR q_S), some (aR 1), some (aR 188), some (aR 211), some (aI v4), none, none]) (st' := [aR q_S, aR 1]) (show decode (mC 268) 537 = .ok (.aload_n 0, 1) by decide +kernel) rfl (by show (if q_S = 0 then none else some (_, _)) = _; rw [if_neg (by decide)]) ?_
  refine e_L (L' := [some (aR q_S), some (aR 1), some (aR 188), some (aR 211), some (aI v4), none, none]) (st' := [aI v4, aR q_S, aR 1]) (show decode (mC 268) 538 = .ok (.iload 4, 2) by decide +kernel) rfl rfl ?_
  refine e_P (st' := [aI 1, aI v4, aR q_S, aR 1]) (show decode (mC 268) 540 = .ok (.iconst 1, 1) by decide +kernel) rfl rfl rfl ?_
  refine e_P (st' := [aI (v4 + 1), aR q_S, aR 1]) (show decode (mC 268) 541 = .ok (.iadd, 1) by decide +kernel) rfl rfl rfl ?_
  refine e_sld (show decode (mC 268) 542 = .ok (.iaload, 1) by decide +kernel) s0 s1 ?_
  refine e_L (L' := [some (aR q_S), some (aR 1), some (aR 188), some (aR 211), some (aI v4), none, none]) (st' := [aR q_S, aI (scr G (v4 + 1)), aR 1]) (show decode (mC 268) 543 = .ok (.aload_n 0, 1) by decide +kernel) rfl (by show (if q_S = 0 then none else some (_, _)) = _; rw [if_neg (by decide)]) ?_
  refine e_L (L' := [some (aR q_S), some (aR 1), some (aR 188), some (aR 211), some (aI v4), none, none]) (st' := [aI v4, aR q_S, aI (scr G (v4 + 1)), aR 1]) (show decode (mC 268) 544 = .ok (.iload 4, 2) by decide +kernel) rfl rfl ?_
  refine e_P (st' := [aI 2, aI v4, aR q_S, aI (scr G (v4 + 1)), aR 1]) (show decode (mC 268) 546 = .ok (.iconst 2, 1) by decide +kernel) rfl rfl rfl ?_
  refine e_P (st' := [aI (v4 + 2), aR q_S, aI (scr G (v4 + 1)), aR 1]) (show decode (mC 268) 547 = .ok (.iadd, 1) by decide +kernel) rfl rfl rfl ?_
  refine e_sld (show decode (mC 268) 548 = .ok (.iaload, 1) by decide +kernel) s2 s3 ?_
  exact e_V (as := [aR 1, aI (scr G (v4 + 1)), aI (scr G (v4 + 2))]) (rest := []) (show decode (mC 268) 549 = .ok (.invokevirtual 67, 3) by decide +kernel) (by decide +kernel) (show (decide ((3 : Nat) = mA 126) && decide (126 < q_law)) = true by decide +kernel) rfl (show (0 : Nat) ≤ 8 by decide) (show (3 : Nat) ≤ mL 126 by decide +kernel) rfl (sh_ok hG (by decide +kernel)) m4
end SPl1
