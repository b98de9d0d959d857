section SPl2
variable {d : Nat} {G : GG} {c : CC} {Q : OO → HH → Prop}
theorem b271_552 (hG : Shp G) {v4 u0 : Int}
    (s0 : 0 ≤ (v4 + 1))
    (s1 : (v4 + 1) < (G.2.2.2.2.1 : Int))
    (s2 : 0 ≤ (v4 + 2))
    (s3 : (v4 + 2) < (G.2.2.2.2.1 : Int))
    (m4 : TM (d + 1) 206 [aR 188, aI (scr G (v4 + 1)), aI (scr G (v4 + 2))] (G, c) (fun r h' => T (d + 2) 271 568 [some (aR q_S), some (aR 1), some (aR 188), some (aR 211), some (aI v4), none, none] (r.toList ++ [aI u0]) h' Q)) :
    T (d + 2) 271 552 [some (aR q_S), some (aR 1), some (aR 188), some (aR 211), some (aI v4), none, none] [aI u0] (G, c) Q := by
  refine e_L (L' := [some (aR q_S), some (aR 1), some (aR 188), some (aR 211), some (aI v4), none, none]) (st' := [aR 188, aI u0]) (show decode (mC 271) 552 = .ok (.aload_n 2, 1) by decide +kernel) rfl (by show (if 188 = 0 then none else some (_, _)) = _; rw [if_neg (by decide)]) ?_
  refine e_L (L' := [some (aR q_S), some (aR 1), some (aR 188), some (aR 211), some (aI v4), none, none]) (st' := [aR q_S, aR 188, aI u0]) (show decode (mC 271) 553 = .ok (.aload_n 0, 1) by decide +kernel) rfl (by show (if q_S = 0 then none else some (_, _)) = _; rw [if_neg (by decide)]) ?_
  refine e_L (L' := [some (aR q_S), some (aR 1), some (aR 188), some (aR 211), some (aI v4), none, none]) (st' := [aI v4, aR q_S, aR 188, aI u0]) (show decode (mC 271) 554 = .ok (.iload 4, 2) by decide +kernel) rfl rfl ?_
  refine e_P (st' := [aI 1, aI v4, aR q_S, aR 188, aI u0]) (show decode (mC 271) 556 = .ok (.iconst 1, 1) by decide +kernel) rfl rfl rfl ?_
  refine e_P (st' := [aI (v4 + 1), aR q_S, aR 188, aI u0]) (show decode (mC 271) 557 = .ok (.iadd, 1) by decide +kernel) rfl rfl rfl ?_
  refine e_sld (show decode (mC 271) 558 = .ok (.iaload, 1) by decide +kernel) s0 s1 ?_
  refine e_L (L' := [some (aR q_S), some (aR 1), some (aR 188), some (aR 211), some (aI v4), none, none]) (st' := [aR q_S, aI (scr G (v4 + 1)), aR 188, aI u0]) (show decode (mC 271) 559 = .ok (.aload_n 0, 1) by decide +kernel) rfl (by show (if q_S = 0 then none else some (_, _)) = _; rw [if_neg (by decide)]) ?_
  refine e_L (L' := [some (aR q_S), some (aR 1), some (aR 188), some (aR 211), some (aI v4), none, none]) (st' := [aI v4, aR q_S, aI (scr G (v4 + 1)), aR 188, aI u0]) (show decode (mC 271) 560 = .ok (.iload 4, 2) by decide +kernel) rfl rfl ?_
  refine e_P (st' := [aI 2, aI v4, aR q_S, aI (scr G (v4 + 1)), aR 188, aI u0]) (show decode (mC 271) 562 = .ok (.iconst 2, 1) by decide +kernel) rfl rfl rfl ?_
  refine e_P (st' := [aI (v4 + 2), aR q_S, aI (scr G (v4 + 1)), aR 188, aI u0]) (show decode (mC 271) 563 = .ok (.iadd, 1) by decide +kernel) rfl rfl rfl ?_
  refine e_sld (show decode (mC 271) 564 = .ok (.iaload, 1) by decide +kernel) s2 s3 ?_
  exact e_V (as := [aR 188, aI (scr G (v4 + 1)), aI (scr G (v4 + 2))]) (rest := [aI u0]) (show decode (mC 271) 565 = .ok (.invokevirtual 70, 3) by decide +kernel) (by decide +kernel) (show (decide ((3 : Nat) = mA 206) && decide (206 < q_law)) = true by decide +kernel) rfl (show (1 : Nat) ≤ 8 by decide) (show (3 : Nat) ≤ mL 206 by decide +kernel) rfl (sh_ok hG (by decide +kernel)) m4
theorem b271_568 (hG : Shp G) {v4 u0 u1 : Int}
    (s0 : -2147483648 ≤ u0 ∧ u0 < 2147483648)
    (s1 : -2147483648 ≤ u1 ∧ u1 < 2147483648)
    (k2 : (u0 = u1) → T (d + 2) 271 1328 [some (aR q_S), some (aR 1), some (aR 188), some (aR 211), some (aI v4), none, none] [] (G, c) Q)
    (z3 : (¬ u0 = u1) → Q (.inl (some (aI 0))) (G, c)) :
    T (d + 2) 271 568 [some (aR q_S), some (aR 1), some (aR 188), some (aR 211), some (aI v4), none, none] [aI u1, aI u0] (G, c) Q := by
  refine e_eq2 (t := 1328) (show decode (mC 271) 568 = .ok (.if_icmp .eq 760, 3) by decide +kernel) (by decide) s0 s1 (fun p1 => ?_) (fun p1 => ?_)
  · exact (k2 p1)
  · refine e_P (st' := [aI 0]) (show decode (mC 271) 571 = .ok (.iconst 0, 1) by decide +kernel) rfl rfl rfl ?_
    exact e_zret (show decode (mC 271) 572 = .ok (.ireturn, 1) by decide +kernel) rfl (by decide) (z3 p1)
theorem b271_573 (hG : Shp G) {v4 : Int}
    (s0 : 0 ≤ (v4 + 1))
    (s1 : (v4 + 1) < (G.2.2.2.2.1 : Int))
    (s2 : 0 ≤ (v4 + 2))
    (s3 : (v4 + 2) < (G.2.2.2.2.1 : Int))
    (m4 : TM (d + 1) 127 [aR 1, aI (scr G (v4 + 1)), aI (scr G (v4 + 2))] (G, c) (fun r h' => T (d + 2) 271 589 [some (aR q_S), some (aR 1), some (aR 188), some (aR 211), some (aI v4), none, none] (r.toList ++ []) h' Q)) :
    T (d + 2) 271 573 [some (aR q_S), some (aR 1), some (aR 188), some (aR 211), some (aI v4), none, none] [] (G, c) Q := by
  refine e_L (L' := [some (aR q_S), some (aR 1), some (aR 188), some (aR 211), some (aI v4), none, none]) (st' := [aR 1]) (show decode (mC 271) 573 = .ok (.aload_n 1, 1) by decide +kernel) rfl (by show (if 1 = 0 then none else some (_, _)) = _; rw [if_neg (by decide)]) ?_
  refine e_L (L' := [some (aR q_S), some (aR 1), some (aR 188), some (aR 211), some (aI v4), none, none]) (st' := [aR q_S, aR 1]) (show decode (mC 271) 574 = .ok (.aload_n 0, 1) by decide +kernel) rfl (by show (if q_S = 0 then none else some (_, _)) = _; rw [if_neg (by decide)]) ?_
  refine e_L (L' := [some (aR q_S), some (aR 1), some (aR 188), some (aR 211), some (aI v4), none, none]) (st' := [aI v4, aR q_S, aR 1]) (show decode (mC 271) 575 = .ok (.iload 4, 2) by decide +kernel) rfl rfl ?_
  refine e_P (st' := [aI 1, aI v4, aR q_S, aR 1]) (show decode (mC 271) 577 = .ok (.iconst 1, 1) by decide +kernel) rfl rfl rfl ?_
  refine e_P (st' := [aI (v4 + 1), aR q_S, aR 1]) (show decode (mC 271) 578 = .ok (.iadd, 1) by decide +kernel) rfl rfl rfl ?_
  refine e_sld (show decode (mC 271) 579 = .ok (.iaload, 1) by decide +kernel) s0 s1 ?_
  refine e_L (L' := [some (aR q_S), some (aR 1), some (aR 188), some (aR 211), some (aI v4), none, none]) (st' := [aR q_S, aI (scr G (v4 + 1)), aR 1]) (show decode (mC 271) 580 = .ok (.aload_n 0, 1) by decide +kernel) rfl (by show (if q_S = 0 then none else some (_, _)) = _; rw [if_neg (by decide)]) ?_
  refine e_L (L' := [some (aR q_S), some (aR 1), some (aR 188), some (aR 211), some (aI v4), none, none]) (st' := [aI v4, aR q_S, aI (scr G (v4 + 1)), aR 1]) (show decode (mC 271) 581 = .ok (.iload 4, 2) by decide +kernel) rfl rfl ?_
  refine e_P (st' := [aI 2, aI v4, aR q_S, aI (scr G (v4 + 1)), aR 1]) (show decode (mC 271) 583 = .ok (.iconst 2, 1) by decide +kernel) rfl rfl rfl ?_
  refine e_P (st' := [aI (v4 + 2), aR q_S, aI (scr G (v4 + 1)), aR 1]) (show decode (mC 271) 584 = .ok (.iadd, 1) by decide +kernel) rfl rfl rfl ?_
  refine e_sld (show decode (mC 271) 585 = .ok (.iaload, 1) by decide +kernel) s2 s3 ?_
  exact e_V (as := [aR 1, aI (scr G (v4 + 1)), aI (scr G (v4 + 2))]) (rest := []) (show decode (mC 271) 586 = .ok (.invokevirtual 71, 3) by decide +kernel) (by decide +kernel) (show (decide ((3 : Nat) = mA 127) && decide (127 < q_law)) = true by decide +kernel) rfl (show (0 : Nat) ≤ 8 by decide) (show (3 : Nat) ≤ mL 127 by decide +kernel) rfl (sh_ok hG (by decide +kernel)) m4
theorem b271_589 (hG : Shp G) {v4 u0 : Int}
    (s0 : 0 ≤ (v4 + 1))
    (s1 : (v4 + 1) < (G.2.2.2.2.1 : Int))
    (s2 : 0 ≤ (v4 + 2))
    (s3 : (v4 + 2) < (G.2.2.2.2.1 : Int))
    (m4 : TM (d + 1) 207 [aR 188, aI (scr G (v4 + 1)), aI (scr G (v4 + 2))] (G, c) (fun r h' => T (d + 2) 271 605 [some (aR q_S), some (aR 1), some (aR 188), some (aR 211), some (aI v4), none, none] (r.toList ++ [aI u0]) h' Q)) :
    T (d + 2) 271 589 [some (aR q_S), some (aR 1), some (aR 188), some (aR 211), some (aI v4), none, none] [aI u0] (G, c) Q := by
  refine e_L (L' := [some (aR q_S), some (aR 1), some (aR 188), some (aR 211), some (aI v4), none, none]) (st' := [aR 188, aI u0]) (show decode (mC 271) 589 = .ok (.aload_n 2, 1) by decide +kernel) rfl (by show (if 188 = 0 then none else some (_, _)) = _; rw [if_neg (by decide)]) ?_
  refine e_L (L' := [some (aR q_S), some (aR 1), some (aR 188), some (aR 211), some (aI v4), none, none]) (st' := [aR q_S, aR 188, aI u0]) (show decode (mC 271) 590 = .ok (.aload_n 0, 1) by decide +kernel) rfl (by show (if q_S = 0 then none else some (_, _)) = _; rw [if_neg (by decide)]) ?_
  refine e_L (L' := [some (aR q_S), some (aR 1), some (aR 188), some (aR 211), some (aI v4), none, none]) (st' := [aI v4, aR q_S, aR 188, aI u0]) (show decode (mC 271) 591 = .ok (.iload 4, 2) by decide +kernel) rfl rfl ?_
  refine e_P (st' := [aI 1, aI v4, aR q_S, aR 188, aI u0]) (show decode (mC 271) 593 = .ok (.iconst 1, 1) by decide +kernel) rfl rfl rfl ?_
  refine e_P (st' := [aI (v4 + 1), aR q_S, aR 188, aI u0]) (show decode (mC 271) 594 = .ok (.iadd, 1) by decide +kernel) rfl rfl rfl ?_
  refine e_sld (show decode (mC 271) 595 = .ok (.iaload, 1) by decide +kernel) s0 s1 ?_
  refine e_L (L' := [some (aR q_S), some (aR 1), some (aR 188), some (aR 211), some (aI v4), none, none]) (st' := [aR q_S, aI (scr G (v4 + 1)), aR 188, aI u0]) (show decode (mC 271) 596 = .ok (.aload_n 0, 1) by decide +kernel) rfl (by show (if q_S = 0 then none else some (_, _)) = _; rw [if_neg (by decide)]) ?_
  refine e_L (L' := [some (aR q_S), some (aR 1), some (aR 188), some (aR 211), some (aI v4), none, none]) (st' := [aI v4, aR q_S, aI (scr G (v4 + 1)), aR 188, aI u0]) (show decode (mC 271) 597 = .ok (.iload 4, 2) by decide +kernel) rfl rfl ?_
  refine e_P (st' := [aI 2, aI v4, aR q_S, aI (scr G (v4 + 1)), aR 188, aI u0]) (show decode (mC 271) 599 = .ok (.iconst 2, 1) by decide +kernel) rfl rfl rfl ?_
  refine e_P (st' := [aI (v4 + 2), aR q_S, aI (scr G (v4 + 1)), aR 188, aI u0]) (show decode (mC 271) 600 = .ok (.iadd, 1) by decide +kernel) rfl rfl rfl ?_
  refine e_sld (show decode (mC 271) 601 = .ok (.iaload, 1) by decide +kernel) s2 s3 ?_
  exact e_V (as := [aR 188, aI (scr G (v4 + 1)), aI (scr G (v4 + 2))]) (rest := [aI u0]) (show decode (mC 271) 602 = .ok (.invokevirtual 74, 3) by decide +kernel) (by decide +kernel) (show (decide ((3 : Nat) = mA 207) && decide (207 < q_law)) = true by decide +kernel) rfl (show (1 : Nat) ≤ 8 by decide) (show (3 : Nat) ≤ mL 207 by decide +kernel) rfl (sh_ok hG (by decide +kernel)) m4
theorem b271_605 (hG : Shp G) {v4 u0 u1 : Int}
    (s0 : -2147483648 ≤ u0 ∧ u0 < 2147483648)
    (s1 : -2147483648 ≤ u1 ∧ u1 < 2147483648)
    (k2 : (u0 = u1) → T (d + 2) 271 1328 [some (aR q_S), some (aR 1), some (aR 188), some (aR 211), some (aI v4), none, none] [] (G, c) Q)
    (z3 : (¬ u0 = u1) → Q (.inl (some (aI 0))) (G, c)) :
    T (d + 2) 271 605 [some (aR q_S), some (aR 1), some (aR 188), some (aR 211), some (aI v4), none, none] [aI u1, aI u0] (G, c) Q := by
  refine e_eq2 (t := 1328) (show decode (mC 271) 605 = .ok (.if_icmp .eq 723, 3) by decide +kernel) (by decide) s0 s1 (fun p1 => ?_) (fun p1 => ?_)
  · exact (k2 p1)
  · refine e_P (st' := [aI 0]) (show decode (mC 271) 608 = .ok (.iconst 0, 1) by decide +kernel) rfl rfl rfl ?_
    exact e_zret (show decode (mC 271) 609 = .ok (.ireturn, 1) by decide +kernel) rfl (by decide) (z3 p1)
theorem b271_610 (hG : Shp G) {v4 : Int}
    (s0 : 0 ≤ (v4 + 1))
    (s1 : (v4 + 1) < (G.2.2.2.2.1 : Int))
    (m2 : TM (d + 1) 128 [aR 1, aI (scr G (v4 + 1))] (G, c) (fun r h' => T (d + 2) 271 620 [some (aR q_S), some (aR 1), some (aR 188), some (aR 211), some (aI v4), none, none] (r.toList ++ []) h' Q)) :
    T (d + 2) 271 610 [some (aR q_S), some (aR 1), some (aR 188), some (aR 211), some (aI v4), none, none] [] (G, c) Q := by
  refine e_L (L' := [some (aR q_S), some (aR 1), some (aR 188), some (aR 211), some (aI v4), none, none]) (st' := [aR 1]) (show decode (mC 271) 610 = .ok (.aload_n 1, 1) by decide +kernel) rfl (by show (if 1 = 0 then none else some (_, _)) = _; rw [if_neg (by decide)]) ?_
  refine e_L (L' := [some (aR q_S), some (aR 1), some (aR 188), some (aR 211), some (aI v4), none, none]) (st' := [aR q_S, aR 1]) (show decode (mC 271) 611 = .ok (.aload_n 0, 1) by decide +kernel) rfl (by show (if q_S = 0 then none else some (_, _)) = _; rw [if_neg (by decide)]) ?_
  refine e_L (L' := [some (aR q_S), some (aR 1), some (aR 188), some (aR 211), some (aI v4), none, none]) (st' := [aI v4, aR q_S, aR 1]) (show decode (mC 271) 612 = .ok (.iload 4, 2) by decide +kernel) rfl rfl ?_
  refine e_P (st' := [aI 1, aI v4, aR q_S, aR 1]) (show decode (mC 271) 614 = .ok (.iconst 1, 1) by decide +kernel) rfl rfl rfl ?_
  refine e_P (st' := [aI (v4 + 1), aR q_S, aR 1]) (show decode (mC 271) 615 = .ok (.iadd, 1) by decide +kernel) rfl rfl rfl ?_
  refine e_sld (show decode (mC 271) 616 = .ok (.iaload, 1) by decide +kernel) s0 s1 ?_
  exact e_V (as := [aR 1, aI (scr G (v4 + 1))]) (rest := []) (show decode (mC 271) 617 = .ok (.invokevirtual 75, 3) by decide +kernel) (by decide +kernel) (show (decide ((2 : Nat) = mA 128) && decide (128 < q_law)) = true by decide +kernel) rfl (show (0 : Nat) ≤ 8 by decide) (show (2 : Nat) ≤ mL 128 by decide +kernel) rfl (sh_ok hG (by decide +kernel)) m2
theorem b271_620 (hG : Shp G) {v4 u0 : Int}
    (s0 : 0 ≤ (v4 + 1))
    (s1 : (v4 + 1) < (G.2.2.2.2.1 : Int))
    (m2 : TM (d + 1) 209 [aR 188, aI (scr G (v4 + 1))] (G, c) (fun r h' => T (d + 2) 271 630 [some (aR q_S), some (aR 1), some (aR 188), some (aR 211), some (aI v4), none, none] (r.toList ++ [aI u0]) h' Q)) :
    T (d + 2) 271 620 [some (aR q_S), some (aR 1), some (aR 188), some (aR 211), some (aI v4), none, none] [aI u0] (G, c) Q := by
  refine e_L (L' := [some (aR q_S), some (aR 1), some (aR 188), some (aR 211), some (aI v4), none, none]) (st' := [aR 188, aI u0]) (show decode (mC 271) 620 = .ok (.aload_n 2, 1) by decide +kernel) rfl (by show (if 188 = 0 then none else some (_, _)) = _; rw [if_neg (by decide)]) ?_
  refine e_L (L' := [some (aR q_S), some (aR 1), some (aR 188), some (aR 211), some (aI v4), none, none]) (st' := [aR q_S, aR 188, aI u0]) (show decode (mC 271) 621 = .ok (.aload_n 0, 1) by decide +kernel) rfl (by show (if q_S = 0 then none else some (_, _)) = _; rw [if_neg (by decide)]) ?_
  refine e_L (L' := [some (aR q_S), some (aR 1), some (aR 188), some (aR 211), some (aI v4), none, none]) (st' := [aI v4, aR q_S, aR 188, aI u0]) (show decode (mC 271) 622 = .ok (.iload 4, 2) by decide +kernel) rfl rfl ?_
  refine e_P (st' := [aI 1, aI v4, aR q_S, aR 188, aI u0]) (show decode (mC 271) 624 = .ok (.iconst 1, 1) by decide +kernel) rfl rfl rfl ?_
  refine e_P (st' := [aI (v4 + 1), aR q_S, aR 188, aI u0]) (show decode (mC 271) 625 = .ok (.iadd, 1) by decide +kernel) rfl rfl rfl ?_
  refine e_sld (show decode (mC 271) 626 = .ok (.iaload, 1) by decide +kernel) s0 s1 ?_
  exact e_V (as := [aR 188, aI (scr G (v4 + 1))]) (rest := [aI u0]) (show decode (mC 271) 627 = .ok (.invokevirtual 78, 3) by decide +kernel) (by decide +kernel) (show (decide ((2 : Nat) = mA 209) && decide (209 < q_law)) = true by decide +kernel) rfl (show (1 : Nat) ≤ 8 by decide) (show (2 : Nat) ≤ mL 209 by decide +kernel) rfl (sh_ok hG (by decide +kernel)) m2
theorem b271_630 (hG : Shp G) {v4 u0 u1 : Int}
    (s0 : -2147483648 ≤ u0 ∧ u0 < 2147483648)
    (s1 : -2147483648 ≤ u1 ∧ u1 < 2147483648)
    (k2 : (u0 = u1) → T (d + 2) 271 1328 [some (aR q_S), some (aR 1), some (aR 188), some (aR 211), some (aI v4), none, none] [] (G, c) Q)
    (z3 : (¬ u0 = u1) → Q (.inl (some (aI 0))) (G, c)) :
    T (d + 2) 271 630 [some (aR q_S), some (aR 1), some (aR 188), some (aR 211), some (aI v4), none, none] [aI u1, aI u0] (G, c) Q := by
  refine e_eq2 (t := 1328) (show decode (mC 271) 630 = .ok (.if_icmp .eq 698, 3) by decide +kernel) (by decide) s0 s1 (fun p1 => ?_) (fun p1 => ?_)
  · exact (k2 p1)
  · refine e_P (st' := [aI 0]) (show decode (mC 271) 633 = .ok (.iconst 0, 1) by decide +kernel) rfl rfl rfl ?_
    exact e_zret (show decode (mC 271) 634 = .ok (.ireturn, 1) by decide +kernel) rfl (by decide) (z3 p1)
theorem b271_635 (hG : Shp G) {v4 : Int}
    (s0 : 0 ≤ (v4 + 1))
    (s1 : (v4 + 1) < (G.2.2.2.2.1 : Int))
    (m2 : TM (d + 1) 129 [aR 1, aI (scr G (v4 + 1))] (G, c) (fun r h' => T (d + 2) 271 645 [some (aR q_S), some (aR 1), some (aR 188), some (aR 211), some (aI v4), none, none] (r.toList ++ []) h' Q)) :
    T (d + 2) 271 635 [some (aR q_S), some (aR 1), some (aR 188), some (aR 211), some (aI v4), none, none] [] (G, c) Q := by
  refine e_L (L' := [some (aR q_S), some (aR 1), some (aR 188), some (aR 211), some (aI v4), none, none]) (st' := [aR 1]) (show decode (mC 271) 635 = .ok (.aload_n 1, 1) by decide +kernel) rfl (by show (if 1 = 0 then none else some (_, _)) = _; rw [if_neg (by decide)]) ?_
  refine e_L (L' := [some (aR q_S), some (aR 1), some (aR 188), some (aR 211), some (aI v4), none, none]) (st' := [aR q_S, aR 1]) (show decode (mC 271) 636 = .ok (.aload_n 0, 1) by decide +kernel) rfl (by show (if q_S = 0 then none else some (_, _)) = _; rw [if_neg (by decide)]) ?_
  refine e_L (L' := [some (aR q_S), some (aR 1), some (aR 188), some (aR 211), some (aI v4), none, none]) (st' := [aI v4, aR q_S, aR 1]) (show decode (mC 271) 637 = .ok (.iload 4, 2) by decide +kernel) rfl rfl ?_
  refine e_P (st' := [aI 1, aI v4, aR q_S, aR 1]) (show decode (mC 271) 639 = .ok (.iconst 1, 1) by decide +kernel) rfl rfl rfl ?_
  refine e_P (st' := [aI (v4 + 1), aR q_S, aR 1]) (show decode (mC 271) 640 = .ok (.iadd, 1) by decide +kernel) rfl rfl rfl ?_
  refine e_sld (show decode (mC 271) 641 = .ok (.iaload, 1) by decide +kernel) s0 s1 ?_
  exact e_V (as := [aR 1, aI (scr G (v4 + 1))]) (rest := []) (show decode (mC 271) 642 = .ok (.invokevirtual 79, 3) by decide +kernel) (by decide +kernel) (show (decide ((2 : Nat) = mA 129) && decide (129 < q_law)) = true by decide +kernel) rfl (show (0 : Nat) ≤ 8 by decide) (show (2 : Nat) ≤ mL 129 by decide +kernel) rfl (sh_ok hG (by decide +kernel)) m2
theorem b271_645 (hG : Shp G) {v4 u0 : Int}
    (s0 : 0 ≤ (v4 + 1))
    (s1 : (v4 + 1) < (G.2.2.2.2.1 : Int))
    (m2 : TM (d + 1) 210 [aR 188, aI (scr G (v4 + 1))] (G, c) (fun r h' => T (d + 2) 271 655 [some (aR q_S), some (aR 1), some (aR 188), some (aR 211), some (aI v4), none, none] (r.toList ++ [aI u0]) h' Q)) :
    T (d + 2) 271 645 [some (aR q_S), some (aR 1), some (aR 188), some (aR 211), some (aI v4), none, none] [aI u0] (G, c) Q := by
  refine e_L (L' := [some (aR q_S), some (aR 1), some (aR 188), some (aR 211), some (aI v4), none, none]) (st' := [aR 188, aI u0]) (show decode (mC 271) 645 = .ok (.aload_n 2, 1) by decide +kernel) rfl (by show (if 188 = 0 then none else some (_, _)) = _; rw [if_neg (by decide)]) ?_
  refine e_L (L' := [some (aR q_S), some (aR 1), some (aR 188), some (aR 211), some (aI v4), none, none]) (st' := [aR q_S, aR 188, aI u0]) (show decode (mC 271) 646 = .ok (.aload_n 0, 1) by decide +kernel) rfl (by show (if q_S = 0 then none else some (_, _)) = _; rw [if_neg (by decide)]) ?_
  refine e_L (L' := [some (aR q_S), some (aR 1), some (aR 188), some (aR 211), some (aI v4), none, none]) (st' := [aI v4, aR q_S, aR 188, aI u0]) (show decode (mC 271) 647 = .ok (.iload 4, 2) by decide +kernel) rfl rfl ?_
  refine e_P (st' := [aI 1, aI v4, aR q_S, aR 188, aI u0]) (show decode (mC 271) 649 = .ok (.iconst 1, 1) by decide +kernel) rfl rfl rfl ?_
  refine e_P (st' := [aI (v4 + 1), aR q_S, aR 188, aI u0]) (show decode (mC 271) 650 = .ok (.iadd, 1) by decide +kernel) rfl rfl rfl ?_
  refine e_sld (show decode (mC 271) 651 = .ok (.iaload, 1) by decide +kernel) s0 s1 ?_
  exact e_V (as := [aR 188, aI (scr G (v4 + 1))]) (rest := [aI u0]) (show decode (mC 271) 652 = .ok (.invokevirtual 82, 3) by decide +kernel) (by decide +kernel) (show (decide ((2 : Nat) = mA 210) && decide (210 < q_law)) = true by decide +kernel) rfl (show (1 : Nat) ≤ 8 by decide) (show (2 : Nat) ≤ mL 210 by decide +kernel) rfl (sh_ok hG (by decide +kernel)) m2
theorem b271_655 (hG : Shp G) {v4 u0 u1 : Int}
    (s0 : -2147483648 ≤ u0 ∧ u0 < 2147483648)
    (s1 : -2147483648 ≤ u1 ∧ u1 < 2147483648)
    (k2 : (u0 = u1) → T (d + 2) 271 1328 [some (aR q_S), some (aR 1), some (aR 188), some (aR 211), some (aI v4), none, none] [] (G, c) Q)
    (z3 : (¬ u0 = u1) → Q (.inl (some (aI 0))) (G, c)) :
    T (d + 2) 271 655 [some (aR q_S), some (aR 1), some (aR 188), some (aR 211), some (aI v4), none, none] [aI u1, aI u0] (G, c) Q := by
  refine e_eq2 (t := 1328) (show decode (mC 271) 655 = .ok (.if_icmp .eq 673, 3) by decide +kernel) (by decide) s0 s1 (fun p1 => ?_) (fun p1 => ?_)
  · exact (k2 p1)
  · refine e_P (st' := [aI 0]) (show decode (mC 271) 658 = .ok (.iconst 0, 1) by decide +kernel) rfl rfl rfl ?_
    exact e_zret (show decode (mC 271) 659 = .ok (.ireturn, 1) by decide +kernel) rfl (by decide) (z3 p1)
theorem b271_660 (hG : Shp G) {v4 : Int}
    (s0 : 0 ≤ (v4 + 1))
    (s1 : (v4 + 1) < (G.2.2.2.2.1 : Int))
    (s2 : 0 ≤ (v4 + 2))
    (s3 : (v4 + 2) < (G.2.2.2.2.1 : Int))
    (m4 : TM (d + 1) 124 [aR 1, aI (scr G (v4 + 1)), aI (scr G (v4 + 2))] (G, c) (fun r h' => T (d + 2) 271 676 [some (aR q_S), some (aR 1), some (aR 188), some (aR 211), some (aI v4), none, none] (r.toList ++ []) h' Q)) :
    T (d + 2) 271 660 [some (aR q_S), some (aR 1), some (aR 188), some (aR 211), some (aI v4), none, none] [] (G, c) Q := by
  refine e_L (L' := [some (aR q_S), some (aR 1), some (aR 188), some (aR 211), some (aI v4), none, none]) (st' := [aR 1]) (show decode (mC 271) 660 = .ok (.aload_n 1, 1) by decide +kernel) rfl (by show (if 1 = 0 then none else some (_, _)) = _; rw [if_neg (by decide)]) ?_
  refine e_L (L' := [some (aR q_S), some (aR 1), some (aR 188), some (aR 211), some (aI v4), none, none]) (st' := [aR q_S, aR 1]) (show decode (mC 271) 661 = .ok (.aload_n 0, 1) by decide +kernel) rfl (by show (if q_S = 0 then none else some (_, _)) = _; rw [if_neg (by decide)]) ?_
  refine e_L (L' := [some (aR q_S), some (aR 1), some (aR 188), some (aR 211), some (aI v4), none, none]) (st' := [aI v4, aR q_S, aR 1]) (show decode (mC 271) 662 = .ok (.iload 4, 2) by decide +kernel) rfl rfl ?_
  refine e_P (st' := [aI 1, aI v4, aR q_S, aR 1]) (show decode (mC 271) 664 = .ok (.iconst 1, 1) by decide +kernel) rfl rfl rfl ?_
  refine e_P (st' := [aI (v4 + 1), aR q_S, aR 1]) (show decode (mC 271) 665 = .ok (.iadd, 1) by decide +kernel) rfl rfl rfl ?_
  refine e_sld (show decode (mC 271) 666 = .ok (.iaload, 1) by decide +kernel) s0 s1 ?_
  refine e_L (L' := [some (aR q_S), some (aR 1), some (aR 188), some (aR 211), some (aI v4), none, none]) (st' := [aR q_S, aI (scr G (v4 + 1)), aR 1]) (show decode (mC 271) 667 = .ok (.aload_n 0, 1) by decide +kernel) rfl (by show (if q_S = 0 then none else some (_, _)) = _; rw [if_neg (by decide)]) ?_
  refine e_L (L' := [some (aR q_S), some (aR 1), some (aR 188), some (aR 211), some (aI v4), none, none]) (st' := [aI v4, aR q_S, aI (scr G (v4 + 1)), aR 1]) (show decode (mC 271) 668 = .ok (.iload 4, 2) by decide +kernel) rfl rfl ?_
  refine e_P (st' := [aI 2, aI v4, aR q_S, aI (scr G (v4 + 1)), aR 1]) (show decode (mC 271) 670 = .ok (.iconst 2, 1) by decide +kernel) rfl rfl rfl ?_
  refine e_P (st' := [aI (v4 + 2), aR q_S, aI (scr G (v4 + 1)), aR 1]) (show decode (mC 271) 671 = .ok (.iadd, 1) by decide +kernel) rfl rfl rfl ?_
  refine e_sld (show decode (mC 271) 672 = .ok (.iaload, 1) by decide +kernel) s2 s3 ?_
  exact e_V (as := [aR 1, aI (scr G (v4 + 1)), aI (scr G (v4 + 2))]) (rest := []) (show decode (mC 271) 673 = .ok (.invokevirtual 83, 3) by decide +kernel) (by decide +kernel) (show (decide ((3 : Nat) = mA 124) && decide (124 < q_law)) = true by decide +kernel) rfl (show (0 : Nat) ≤ 8 by decide) (show (3 : Nat) ≤ mL 124 by decide +kernel) rfl (sh_ok hG (by decide +kernel)) m4
theorem b271_676 (hG : Shp G) {v4 u0 : Int}
    (s0 : 0 ≤ (v4 + 1))
    (s1 : (v4 + 1) < (G.2.2.2.2.1 : Int))
    (s2 : 0 ≤ (v4 + 2))
    (s3 : (v4 + 2) < (G.2.2.2.2.1 : Int))
    (m4 : TM (d + 1) 211 [aR 188, aI (scr G (v4 + 1)), aI (scr G (v4 + 2))] (G, c) (fun r h' => T (d + 2) 271 692 [some (aR q_S), some (aR 1), some (aR 188), some (aR 211), some (aI v4), none, none] (r.toList ++ [aI u0]) h' Q)) :
    T (d + 2) 271 676 [some (aR q_S), some (aR 1), some (aR 188), some (aR 211), some (aI v4), none, none] [aI u0] (G, c) Q := by
  refine e_L (L' := [some (aR q_S), some (aR 1), some (aR 188), some (aR 211), some (aI v4), none, none]) (st' := [aR 188, aI u0]) (show decode (mC 271) 676 = .ok (.aload_n 2, 1) by decide +kernel) rfl (by show (if 188 = 0 then none else some (_, _)) = _; rw [if_neg (by decide)]) ?_
  refine e_L (L' := [some (aR q_S), some (aR 1), some (aR 188), some (aR 211), some (aI v4), none, none]) (st' := [aR q_S, aR 188, aI u0]) (show decode (mC 271) 677 = .ok (.aload_n 0, 1) by decide +kernel) rfl (by show (if q_S = 0 then none else some (_, _)) = _; rw [if_neg (by decide)]) ?_
  refine e_L (L' := [some (aR q_S), some (aR 1), some (aR 188), some (aR 211), some (aI v4), none, none]) (st' := [aI v4, aR q_S, aR 188, aI u0]) (show decode (mC 271) 678 = .ok (.iload 4, 2) by decide +kernel) rfl rfl ?_
  refine e_P (st' := [aI 1, aI v4, aR q_S, aR 188, aI u0]) (show decode (mC 271) 680 = .ok (.iconst 1, 1) by decide +kernel) rfl rfl rfl ?_
  refine e_P (st' := [aI (v4 + 1), aR q_S, aR 188, aI u0]) (show decode (mC 271) 681 = .ok (.iadd, 1) by decide +kernel) rfl rfl rfl ?_
  refine e_sld (show decode (mC 271) 682 = .ok (.iaload, 1) by decide +kernel) s0 s1 ?_
  refine e_L (L' := [some (aR q_S), some (aR 1), some (aR 188), some (aR 211), some (aI v4), none, none]) (st' := [aR q_S, aI (scr G (v4 + 1)), aR 188, aI u0]) (show decode (mC 271) 683 = .ok (.aload_n 0, 1) by decide +kernel) rfl (by show (if q_S = 0 then none else some (_, _)) = _; rw [if_neg (by decide)]) ?_
  refine e_L (L' := [some (aR q_S), some (aR 1), some (aR 188), some (aR 211), some (aI v4), none, none]) (st' := [aI v4, aR q_S, aI (scr G (v4 + 1)), aR 188, aI u0]) (show decode (mC 271) 684 = .ok (.iload 4, 2) by decide +kernel) rfl rfl ?_
  refine e_P (st' := [aI 2, aI v4, aR q_S, aI (scr G (v4 + 1)), aR 188, aI u0]) (show decode (mC 271) 686 = .ok (.iconst 2, 1) by decide +kernel) rfl rfl rfl ?_
  refine e_P (st' := [aI (v4 + 2), aR q_S, aI (scr G (v4 + 1)), aR 188, aI u0]) (show decode (mC 271) 687 = .ok (.iadd, 1) by decide +kernel) rfl rfl rfl ?_
  refine e_sld (show decode (mC 271) 688 = .ok (.iaload, 1) by decide +kernel) s2 s3 ?_
  exact e_V (as := [aR 188, aI (scr G (v4 + 1)), aI (scr G (v4 + 2))]) (rest := [aI u0]) (show decode (mC 271) 689 = .ok (.invokevirtual 86, 3) by decide +kernel) (by decide +kernel) (show (decide ((3 : Nat) = mA 211) && decide (211 < q_law)) = true by decide +kernel) rfl (show (1 : Nat) ≤ 8 by decide) (show (3 : Nat) ≤ mL 211 by decide +kernel) rfl (sh_ok hG (by decide +kernel)) m4
theorem b271_692 (hG : Shp G) {v4 u0 u1 : Int}
    (s0 : -2147483648 ≤ u0 ∧ u0 < 2147483648)
    (s1 : -2147483648 ≤ u1 ∧ u1 < 2147483648)
    (k2 : (u0 = u1) → T (d + 2) 271 1328 [some (aR q_S), some (aR 1), some (aR 188), some (aR 211), some (aI v4), none, none] [] (G, c) Q)
    (z3 : (¬ u0 = u1) → Q (.inl (some (aI 0))) (G, c)) :
    T (d + 2) 271 692 [some (aR q_S), some (aR 1), some (aR 188), some (aR 211), some (aI v4), none, none] [aI u1, aI u0] (G, c) Q := by
  refine e_eq2 (t := 1328) (show decode (mC 271) 692 = .ok (.if_icmp .eq 636, 3) by decide +kernel) (by decide) s0 s1 (fun p1 => ?_) (fun p1 => ?_)
  · exact (k2 p1)
  · refine e_P (st' := [aI 0]) (show decode (mC 271) 695 = .ok (.iconst 0, 1) by decide +kernel) rfl rfl rfl ?_
    exact e_zret (show decode (mC 271) 696 = .ok (.ireturn, 1) by decide +kernel) rfl (by decide) (z3 p1)
theorem b271_697 (hG : Shp G) {v4 : Int}
    (m0 : TM (d + 1) 133 [aR 1] (G, c) (fun r h' => T (d + 2) 271 701 [some (aR q_S), some (aR 1), some (aR 188), some (aR 211), some (aI v4), none, none] (r.toList ++ []) h' Q)) :
    T (d + 2) 271 697 [some (aR q_S), some (aR 1), some (aR 188), some (aR 211), some (aI v4), none, none] [] (G, c) Q := by
  refine e_L (L' := [some (aR q_S), some (aR 1), some (aR 188), some (aR 211), some (aI v4), none, none]) (st' := [aR 1]) (show decode (mC 271) 697 = .ok (.aload_n 1, 1) by decide +kernel) rfl (by show (if 1 = 0 then none else some (_, _)) = _; rw [if_neg (by decide)]) ?_
  exact e_V (as := [aR 1]) (rest := []) (show decode (mC 271) 698 = .ok (.invokevirtual 87, 3) by decide +kernel) (by decide +kernel) (show (decide ((1 : Nat) = mA 133) && decide (133 < q_law)) = true by decide +kernel) rfl (show (0 : Nat) ≤ 8 by decide) (show (1 : Nat) ≤ mL 133 by decide +kernel) rfl (sh_ok hG (by decide +kernel)) m0
theorem b271_701 (hG : Shp G) {v4 u0 : Int}
    (m0 : TM (d + 1) 213 [aR 188] (G, c) (fun r h' => T (d + 2) 271 705 [some (aR q_S), some (aR 1), some (aR 188), some (aR 211), some (aI v4), none, none] (r.toList ++ [aI u0]) h' Q)) :
    T (d + 2) 271 701 [some (aR q_S), some (aR 1), some (aR 188), some (aR 211), some (aI v4), none, none] [aI u0] (G, c) Q := by
  refine e_L (L' := [some (aR q_S), some (aR 1), some (aR 188), some (aR 211), some (aI v4), none, none]) (st' := [aR 188, aI u0]) (show decode (mC 271) 701 = .ok (.aload_n 2, 1) by decide +kernel) rfl (by show (if 188 = 0 then none else some (_, _)) = _; rw [if_neg (by decide)]) ?_
  exact e_V (as := [aR 188]) (rest := [aI u0]) (show decode (mC 271) 702 = .ok (.invokevirtual 90, 3) by decide +kernel) (by decide +kernel) (show (decide ((1 : Nat) = mA 213) && decide (213 < q_law)) = true by decide +kernel) rfl (show (1 : Nat) ≤ 8 by decide) (show (1 : Nat) ≤ mL 213 by decide +kernel) rfl (sh_ok hG (by decide +kernel)) m0
theorem b271_705 (hG : Shp G) {v4 u0 u1 : Int}
    (s0 : -2147483648 ≤ u0 ∧ u0 < 2147483648)
    (s1 : -2147483648 ≤ u1 ∧ u1 < 2147483648)
    (k2 : (u0 = u1) → T (d + 2) 271 1328 [some (aR q_S), some (aR 1), some (aR 188), some (aR 211), some (aI v4), none, none] [] (G, c) Q)
    (z3 : (¬ u0 = u1) → Q (.inl (some (aI 0))) (G, c)) :
    T (d + 2) 271 705 [some (aR q_S), some (aR 1), some (aR 188), some (aR 211), some (aI v4), none, none] [aI u1, aI u0] (G, c) Q := by
  refine e_eq2 (t := 1328) (show decode (mC 271) 705 = .ok (.if_icmp .eq 623, 3) by decide +kernel) (by decide) s0 s1 (fun p1 => ?_) (fun p1 => ?_)
  · exact (k2 p1)
  · refine e_P (st' := [aI 0]) (show decode (mC 271) 708 = .ok (.iconst 0, 1) by decide +kernel) rfl rfl rfl ?_
    exact e_zret (show decode (mC 271) 709 = .ok (.ireturn, 1) by decide +kernel) rfl (by decide) (z3 p1)
theorem b271_710 (hG : Shp G) {v4 : Int}
    (s0 : 0 ≤ (v4 + 1))
    (s1 : (v4 + 1) < (G.2.2.2.2.1 : Int))
    (m2 : TM (d + 1) 136 [aR 1, aI (scr G (v4 + 1))] (G, c) (fun r h' => T (d + 2) 271 720 [some (aR q_S), some (aR 1), some (aR 188), some (aR 211), some (aI v4), none, none] (r.toList ++ []) h' Q)) :
    T (d + 2) 271 710 [some (aR q_S), some (aR 1), some (aR 188), some (aR 211), some (aI v4), none, none] [] (G, c) Q := by
  refine e_L (L' := [some (aR q_S), some (aR 1), some (aR 188), some (aR 211), some (aI v4), none, none]) (st' := [aR 1]) (show decode (mC 271) 710 = .ok (.aload_n 1, 1) by decide +kernel) rfl (by show (if 1 = 0 then none else some (_, _)) = _; rw [if_neg (by decide)]) ?_
  refine e_L (L' := [some (aR q_S), some (aR 1), some (aR 188), some (aR 211), some (aI v4), none, none]) (st' := [aR q_S, aR 1]) (show decode (mC 271) 711 = .ok (.aload_n 0, 1) by decide +kernel) rfl (by show (if q_S = 0 then none else some (_, _)) = _; rw [if_neg (by decide)]) ?_
  refine e_L (L' := [some (aR q_S), some (aR 1), some (aR 188), some (aR 211), some (aI v4), none, none]) (st' := [aI v4, aR q_S, aR 1]) (show decode (mC 271) 712 = .ok (.iload 4, 2) by decide +kernel) rfl rfl ?_
  refine e_P (st' := [aI 1, aI v4, aR q_S, aR 1]) (show decode (mC 271) 714 = .ok (.iconst 1, 1) by decide +kernel) rfl rfl rfl ?_
  refine e_P (st' := [aI (v4 + 1), aR q_S, aR 1]) (show decode (mC 271) 715 = .ok (.iadd, 1) by decide +kernel) rfl rfl rfl ?_
  refine e_sld (show decode (mC 271) 716 = .ok (.iaload, 1) by decide +kernel) s0 s1 ?_
  exact e_V (as := [aR 1, aI (scr G (v4 + 1))]) (rest := []) (show decode (mC 271) 717 = .ok (.invokevirtual 91, 3) by decide +kernel) (by decide +kernel) (show (decide ((2 : Nat) = mA 136) && decide (136 < q_law)) = true by decide +kernel) rfl (show (0 : Nat) ≤ 8 by decide) (show (2 : Nat) ≤ mL 136 by decide +kernel) rfl (sh_ok hG (by decide +kernel)) m2
theorem b271_720 (hG : Shp G) {v4 u0 : Int}
    (s0 : 0 ≤ (v4 + 1))
    (s1 : (v4 + 1) < (G.2.2.2.2.1 : Int))
    (m2 : TM (d + 1) 218 [aR 188, aI (scr G (v4 + 1))] (G, c) (fun r h' => T (d + 2) 271 730 [some (aR q_S), some (aR 1), some (aR 188), some (aR 211), some (aI v4), none, none] (r.toList ++ [aI u0]) h' Q)) :
    T (d + 2) 271 720 [some (aR q_S), some (aR 1), some (aR 188), some (aR 211), some (aI v4), none, none] [aI u0] (G, c) Q := by
  refine e_L (L' := [some (aR q_S), some (aR 1), some (aR 188), some (aR 211), some (aI v4), none, none]) (st' := [aR 188, aI u0]) (show decode (mC 271) 720 = .ok (.aload_n 2, 1) by decide +kernel) rfl (by show (if 188 = 0 then none else some (_, _)) = _; rw [if_neg (by decide)]) ?_
  refine e_L (L' := [some (aR q_S), some (aR 1), some (aR 188), some (aR 211), some (aI v4), none, none]) (st' := [aR q_S, aR 188, aI u0]) (show decode (mC 271) 721 = .ok (.aload_n 0, 1) by decide +kernel) rfl (by show (if q_S = 0 then none else some (_, _)) = _; rw [if_neg (by decide)]) ?_
  refine e_L (L' := [some (aR q_S), some (aR 1), some (aR 188), some (aR 211), some (aI v4), none, none]) (st' := [aI v4, aR q_S, aR 188, aI u0]) (show decode (mC 271) 722 = .ok (.iload 4, 2) by decide +kernel) rfl rfl ?_
  refine e_P (st' := [aI 1, aI v4, aR q_S, aR 188, aI u0]) (show decode (mC 271) 724 = .ok (.iconst 1, 1) by decide +kernel) rfl rfl rfl ?_
  refine e_P (st' := [aI (v4 + 1), aR q_S, aR 188, aI u0]) (show decode (mC 271) 725 = .ok (.iadd, 1) by decide +kernel) rfl rfl rfl ?_
  refine e_sld (show decode (mC 271) 726 = .ok (.iaload, 1) by decide +kernel) s0 s1 ?_
  exact e_V (as := [aR 188, aI (scr G (v4 + 1))]) (rest := [aI u0]) (show decode (mC 271) 727 = .ok (.invokevirtual 94, 3) by decide +kernel) (by decide +kernel) (show (decide ((2 : Nat) = mA 218) && decide (218 < q_law)) = true by decide +kernel) rfl (show (1 : Nat) ≤ 8 by decide) (show (2 : Nat) ≤ mL 218 by decide +kernel) rfl (sh_ok hG (by decide +kernel)) m2
theorem b271_730 (hG : Shp G) {v4 u0 u1 : Int}
    (s0 : -2147483648 ≤ u0 ∧ u0 < 2147483648)
    (s1 : -2147483648 ≤ u1 ∧ u1 < 2147483648)
    (k2 : (u0 = u1) → T (d + 2) 271 1328 [some (aR q_S), some (aR 1), some (aR 188), some (aR 211), some (aI v4), none, none] [] (G, c) Q)
    (z3 : (¬ u0 = u1) → Q (.inl (some (aI 0))) (G, c)) :
    T (d + 2) 271 730 [some (aR q_S), some (aR 1), some (aR 188), some (aR 211), some (aI v4), none, none] [aI u1, aI u0] (G, c) Q := by
  refine e_eq2 (t := 1328) (show decode (mC 271) 730 = .ok (.if_icmp .eq 598, 3) by decide +kernel) (by decide) s0 s1 (fun p1 => ?_) (fun p1 => ?_)
  · exact (k2 p1)
  · refine e_P (st' := [aI 0]) (show decode (mC 271) 733 = .ok (.iconst 0, 1) by decide +kernel) rfl rfl rfl ?_
    exact e_zret (show decode (mC 271) 734 = .ok (.ireturn, 1) by decide +kernel) rfl (by decide) (z3 p1)
theorem b271_735 (hG : Shp G) {v4 : Int}
    (s0 : 0 ≤ (v4 + 1))
    (s1 : (v4 + 1) < (G.2.2.2.2.1 : Int))
    (m2 : TM (d + 1) 137 [aR 1, aI (scr G (v4 + 1))] (G, c) (fun r h' => T (d + 2) 271 745 [some (aR q_S), some (aR 1), some (aR 188), some (aR 211), some (aI v4), none, none] (r.toList ++ []) h' Q)) :
    T (d + 2) 271 735 [some (aR q_S), some (aR 1), some (aR 188), some (aR 211), some (aI v4), none, none] [] (G, c) Q := by
  refine e_L (L' := [some (aR q_S), some (aR 1), some (aR 188), some (aR 211), some (aI v4), none, none]) (st' := [aR 1]) (show decode (mC 271) 735 = .ok (.aload_n 1, 1) by decide +kernel) rfl (by show (if 1 = 0 then none else some (_, _)) = _; rw [if_neg (by decide)]) ?_
  refine e_L (L' := [some (aR q_S), some (aR 1), some (aR 188), some (aR 211), some (aI v4), none, none]) (st' := [aR q_S, aR 1]) (show decode (mC 271) 736 = .ok (.aload_n 0, 1) by decide +kernel) rfl (by show (if q_S = 0 then none else some (_, _)) = _; rw [if_neg (by decide)]) ?_
  refine e_L (L' := [some (aR q_S), some (aR 1), some (aR 188), some (aR 211), some (aI v4), none, none]) (st' := [aI v4, aR q_S, aR 1]) (show decode (mC 271) 737 = .ok (.iload 4, 2) by decide +kernel) rfl rfl ?_
  refine e_P (st' := [aI 1, aI v4, aR q_S, aR 1]) (show decode (mC 271) 739 = .ok (.iconst 1, 1) by decide +kernel) rfl rfl rfl ?_
  refine e_P (st' := [aI (v4 + 1), aR q_S, aR 1]) (show decode (mC 271) 740 = .ok (.iadd, 1) by decide +kernel) rfl rfl rfl ?_
  refine e_sld (show decode (mC 271) 741 = .ok (.iaload, 1) by decide +kernel) s0 s1 ?_
  exact e_V (as := [aR 1, aI (scr G (v4 + 1))]) (rest := []) (show decode (mC 271) 742 = .ok (.invokevirtual 95, 3) by decide +kernel) (by decide +kernel) (show (decide ((2 : Nat) = mA 137) && decide (137 < q_law)) = true by decide +kernel) rfl (show (0 : Nat) ≤ 8 by decide) (show (2 : Nat) ≤ mL 137 by decide +kernel) rfl (sh_ok hG (by decide +kernel)) m2
theorem b271_745 (hG : Shp G) {v4 u0 : Int}
    (s0 : 0 ≤ (v4 + 1))
    (s1 : (v4 + 1) < (G.2.2.2.2.1 : Int))
    (m2 : TM (d + 1) 219 [aR 188, aI (scr G (v4 + 1))] (G, c) (fun r h' => T (d + 2) 271 755 [some (aR q_S), some (aR 1), some (aR 188), some (aR 211), some (aI v4), none, none] (r.toList ++ [aI u0]) h' Q)) :
    T (d + 2) 271 745 [some (aR q_S), some (aR 1), some (aR 188), some (aR 211), some (aI v4), none, none] [aI u0] (G, c) Q := by
  refine e_L (L' := [some (aR q_S), some (aR 1), some (aR 188), some (aR 211), some (aI v4), none, none]) (st' := [aR 188, aI u0]) (show decode (mC 271) 745 = .ok (.aload_n 2, 1) by decide +kernel) rfl (by show (if 188 = 0 then none else some (_, _)) = _; rw [if_neg (by decide)]) ?_
  refine e_L (L' := [some (aR q_S), some (aR 1), some (aR 188), some (aR 211), some (aI v4), none, none]) (st' := [aR q_S, aR 188, aI u0]) (show decode (mC 271) 746 = .ok (.aload_n 0, 1) by decide +kernel) rfl (by show (if q_S = 0 then none else some (_, _)) = _; rw [if_neg (by decide)]) ?_
  refine e_L (L' := [some (aR q_S), some (aR 1), some (aR 188), some (aR 211), some (aI v4), none, none]) (st' := [aI v4, aR q_S, aR 188, aI u0]) (show decode (mC 271) 747 = .ok (.iload 4, 2) by decide +kernel) rfl rfl ?_
  refine e_P (st' := [aI 1, aI v4, aR q_S, aR 188, aI u0]) (show decode (mC 271) 749 = .ok (.iconst 1, 1) by decide +kernel) rfl rfl rfl ?_
  refine e_P (st' := [aI (v4 + 1), aR q_S, aR 188, aI u0]) (show decode (mC 271) 750 = .ok (.iadd, 1) by decide +kernel) rfl rfl rfl ?_
  refine e_sld (show decode (mC 271) 751 = .ok (.iaload, 1) by decide +kernel) s0 s1 ?_
  exact e_V (as := [aR 188, aI (scr G (v4 + 1))]) (rest := [aI u0]) (show decode (mC 271) 752 = .ok (.invokevirtual 98, 3) by decide +kernel) (by decide +kernel) (show (decide ((2 : Nat) = mA 219) && decide (219 < q_law)) = true by decide +kernel) rfl (show (1 : Nat) ≤ 8 by decide) (show (2 : Nat) ≤ mL 219 by decide +kernel) rfl (sh_ok hG (by decide +kernel)) m2
theorem b271_755 (hG : Shp G) {v4 u0 u1 : Int}
    (s0 : -2147483648 ≤ u0 ∧ u0 < 2147483648)
    (s1 : -2147483648 ≤ u1 ∧ u1 < 2147483648)
    (k2 : (u0 = u1) → T (d + 2) 271 1328 [some (aR q_S), some (aR 1), some (aR 188), some (aR 211), some (aI v4), none, none] [] (G, c) Q)
    (z3 : (¬ u0 = u1) → Q (.inl (some (aI 0))) (G, c)) :
    T (d + 2) 271 755 [some (aR q_S), some (aR 1), some (aR 188), some (aR 211), some (aI v4), none, none] [aI u1, aI u0] (G, c) Q := by
  refine e_eq2 (t := 1328) (show decode (mC 271) 755 = .ok (.if_icmp .eq 573, 3) by decide +kernel) (by decide) s0 s1 (fun p1 => ?_) (fun p1 => ?_)
  · exact (k2 p1)
  · refine e_P (st' := [aI 0]) (show decode (mC 271) 758 = .ok (.iconst 0, 1) by decide +kernel) rfl rfl rfl ?_
    exact e_zret (show decode (mC 271) 759 = .ok (.ireturn, 1) by decide +kernel) rfl (by decide) (z3 p1)
theorem b271_760 (hG : Shp G) {v4 : Int}
    (s0 : 0 ≤ (v4 + 1))
    (s1 : (v4 + 1) < (G.2.2.2.2.1 : Int))
    (m2 : TM (d + 1) 138 [aR 1, aI (scr G (v4 + 1))] (G, c) (fun r h' => T (d + 2) 271 770 [some (aR q_S), some (aR 1), some (aR 188), some (aR 211), some (aI v4), none, none] (r.toList ++ []) h' Q)) :
    T (d + 2) 271 760 [some (aR q_S), some (aR 1), some (aR 188), some (aR 211), some (aI v4), none, none] [] (G, c) Q := by
  refine e_L (L' := [some (aR q_S), some (aR 1), some (aR 188), some (aR 211), some (aI v4), none, none]) (st' := [aR 1]) (show decode (mC 271) 760 = .ok (.aload_n 1, 1) by decide +kernel) rfl (by show (if 1 = 0 then none else some (_, _)) = _; rw [if_neg (by decide)]) ?_
  refine e_L (L' := [some (aR q_S), some (aR 1), some (aR 188), some (aR 211), some (aI v4), none, none]) (st' := [aR q_S, aR 1]) (show decode (mC 271) 761 = .ok (.aload_n 0, 1) by decide +kernel) rfl (by show (if q_S = 0 then none else some (_, _)) = _; rw [if_neg (by decide)]) ?_
  refine e_L (L' := [some (aR q_S), some (aR 1), some (aR 188), some (aR 211), some (aI v4), none, none]) (st' := [aI v4, aR q_S, aR 1]) (show decode (mC 271) 762 = .ok (.iload 4, 2) by decide +kernel) rfl rfl ?_
  refine e_P (st' := [aI 1, aI v4, aR q_S, aR 1]) (show decode (mC 271) 764 = .ok (.iconst 1, 1) by decide +kernel) rfl rfl rfl ?_
  refine e_P (st' := [aI (v4 + 1), aR q_S, aR 1]) (show decode (mC 271) 765 = .ok (.iadd, 1) by decide +kernel) rfl rfl rfl ?_
  refine e_sld (show decode (mC 271) 766 = .ok (.iaload, 1) by decide +kernel) s0 s1 ?_
  exact e_V (as := [aR 1, aI (scr G (v4 + 1))]) (rest := []) (show decode (mC 271) 767 = .ok (.invokevirtual 99, 3) by decide +kernel) (by decide +kernel) (show (decide ((2 : Nat) = mA 138) && decide (138 < q_law)) = true by decide +kernel) rfl (show (0 : Nat) ≤ 8 by decide) (show (2 : Nat) ≤ mL 138 by decide +kernel) rfl (sh_ok hG (by decide +kernel)) m2
theorem b271_770 (hG : Shp G) {v4 u0 : Int}
    (s0 : 0 ≤ (v4 + 1))
    (s1 : (v4 + 1) < (G.2.2.2.2.1 : Int))
    (m2 : TM (d + 1) 221 [aR 188, aI (scr G (v4 + 1))] (G, c) (fun r h' => T (d + 2) 271 780 [some (aR q_S), some (aR 1), some (aR 188), some (aR 211), some (aI v4), none, none] (r.toList ++ [aI u0]) h' Q)) :
    T (d + 2) 271 770 [some (aR q_S), some (aR 1), some (aR 188), some (aR 211), some (aI v4), none, none] [aI u0] (G, c) Q := by
  refine e_L (L' := [some (aR q_S), some (aR 1), some (aR 188), some (aR 211), some (aI v4), none, none]) (st' := [aR 188, aI u0]) (show decode (mC 271) 770 = .ok (.aload_n 2, 1) by decide +kernel) rfl (by show (if 188 = 0 then none else some (_, _)) = _; rw [if_neg (by decide)]) ?_
  refine e_L (L' := [some (aR q_S), some (aR 1), some (aR 188), some (aR 211), some (aI v4), none, none]) (st' := [aR q_S, aR 188, aI u0]) (show decode (mC 271) 771 = .ok (.aload_n 0, 1) by decide +kernel) rfl (by show (if q_S = 0 then none else some (_, _)) = _; rw [if_neg (by decide)]) ?_
  refine e_L (L' := [some (aR q_S), some (aR 1), some (aR 188), some (aR 211), some (aI v4), none, none]) (st' := [aI v4, aR q_S, aR 188, aI u0]) (show decode (mC 271) 772 = .ok (.iload 4, 2) by decide +kernel) rfl rfl ?_
  refine e_P (st' := [aI 1, aI v4, aR q_S, aR 188, aI u0]) (show decode (mC 271) 774 = .ok (.iconst 1, 1) by decide +kernel) rfl rfl rfl ?_
  refine e_P (st' := [aI (v4 + 1), aR q_S, aR 188, aI u0]) (show decode (mC 271) 775 = .ok (.iadd, 1) by decide +kernel) rfl rfl rfl ?_
  refine e_sld (show decode (mC 271) 776 = .ok (.iaload, 1) by decide +kernel) s0 s1 ?_
  exact e_V (as := [aR 188, aI (scr G (v4 + 1))]) (rest := [aI u0]) (show decode (mC 271) 777 = .ok (.invokevirtual 102, 3) by decide +kernel) (by decide +kernel) (show (decide ((2 : Nat) = mA 221) && decide (221 < q_law)) = true by decide +kernel) rfl (show (1 : Nat) ≤ 8 by decide) (show (2 : Nat) ≤ mL 221 by decide +kernel) rfl (sh_ok hG (by decide +kernel)) m2
theorem b271_780 (hG : Shp G) {v4 u0 u1 : Int}
    (s0 : -2147483648 ≤ u0 ∧ u0 < 2147483648)
    (s1 : -2147483648 ≤ u1 ∧ u1 < 2147483648)
    (k2 : (u0 = u1) → T (d + 2) 271 1328 [some (aR q_S), some (aR 1), some (aR 188), some (aR 211), some (aI v4), none, none] [] (G, c) Q)
    (z3 : (¬ u0 = u1) → Q (.inl (some (aI 0))) (G, c)) :
    T (d + 2) 271 780 [some (aR q_S), some (aR 1), some (aR 188), some (aR 211), some (aI v4), none, none] [aI u1, aI u0] (G, c) Q := by
  refine e_eq2 (t := 1328) (show decode (mC 271) 780 = .ok (.if_icmp .eq 548, 3) by decide +kernel) (by decide) s0 s1 (fun p1 => ?_) (fun p1 => ?_)
  · exact (k2 p1)
  · refine e_P (st' := [aI 0]) (show decode (mC 271) 783 = .ok (.iconst 0, 1) by decide +kernel) rfl rfl rfl ?_
    exact e_zret (show decode (mC 271) 784 = .ok (.ireturn, 1) by decide +kernel) rfl (by decide) (z3 p1)
theorem b271_785 (hG : Shp G) {v4 : Int}
    (s0 : 0 ≤ (v4 + 1))
    (s1 : (v4 + 1) < (G.2.2.2.2.1 : Int))
    (m2 : T d 139 0 (q_ent 139 [aR 1, aI (scr G (v4 + 1))]) [] (G, c) (QX (fun r h1 => ∃ c1, ∃ v : Int, r = some (aI v) ∧ I32 v ∧ h1 = (G, c1) ∧ T (d + 2) 271 796 [some (aR q_S), some (aR 1), some (aR 188), some (aR 211), some (aI v4), none, none] [aI 0] (G, q_up c1 211 0 v) Q) (fun h1 => ∃ c1, h1 = (G, c1) ∧ T (d + 2) 271 796 [some (aR q_S), some (aR 1), some (aR 188), some (aR 211), some (aI v4), none, none] [aI 1] (G, q_up c1 0 0 (c1 0 0 + 1)) Q))) :
    T (d + 2) 271 785 [some (aR q_S), some (aR 1), some (aR 188), some (aR 211), some (aI v4), none, none] [] (G, c) Q := by
  refine e_L (L' := [some (aR q_S), some (aR 1), some (aR 188), some (aR 211), some (aI v4), none, none]) (st' := [aR 1]) (show decode (mC 271) 785 = .ok (.aload_n 1, 1) by decide +kernel) rfl (by show (if 1 = 0 then none else some (_, _)) = _; rw [if_neg (by decide)]) ?_
  refine e_L (L' := [some (aR q_S), some (aR 1), some (aR 188), some (aR 211), some (aI v4), none, none]) (st' := [aR q_S, aR 1]) (show decode (mC 271) 786 = .ok (.aload_n 0, 1) by decide +kernel) rfl (by show (if q_S = 0 then none else some (_, _)) = _; rw [if_neg (by decide)]) ?_
  refine e_L (L' := [some (aR q_S), some (aR 1), some (aR 188), some (aR 211), some (aI v4), none, none]) (st' := [aI v4, aR q_S, aR 1]) (show decode (mC 271) 787 = .ok (.iload 4, 2) by decide +kernel) rfl rfl ?_
  refine e_P (st' := [aI 1, aI v4, aR q_S, aR 1]) (show decode (mC 271) 789 = .ok (.iconst 1, 1) by decide +kernel) rfl rfl rfl ?_
  refine e_P (st' := [aI (v4 + 1), aR q_S, aR 1]) (show decode (mC 271) 790 = .ok (.iadd, 1) by decide +kernel) rfl rfl rfl ?_
  refine e_sld (show decode (mC 271) 791 = .ok (.iaload, 1) by decide +kernel) s0 s1 ?_
  refine e_L (L' := [some (aR q_S), some (aR 1), some (aR 188), some (aR 211), some (aI v4), none, none]) (st' := [aR 211, aI (scr G (v4 + 1)), aR 1]) (show decode (mC 271) 792 = .ok (.aload_n 3, 1) by decide +kernel) rfl (by show (if 211 = 0 then none else some (_, _)) = _; rw [if_neg (by decide)]) ?_
  exact e_XL (as := [aI (scr G (v4 + 1))]) hG (show decode (mC 271) 793 = .ok (.invokestatic 103, 3) by decide +kernel) (by decide +kernel) (show (decide ((2 : Nat) = mA 139) && decide (139 < q_law)) = true by decide +kernel) rfl rfl (show (2 : Nat) ≤ mL 139 by decide +kernel) m2
theorem b271_796 (hG : Shp G) {v4 u0 : Int}
    (s0 : 0 ≤ (v4 + 1))
    (s1 : (v4 + 1) < (G.2.2.2.2.1 : Int))
    (m2 : TM (d + 1) 223 [aR 188, aI (scr G (v4 + 1))] (G, c) (fun r h' => T (d + 2) 271 808 [some (aR q_S), some (aR 1), some (aR 188), some (aR 211), some (aI v4), some (aI u0), none] (r.toList ++ []) h' Q)) :
    T (d + 2) 271 796 [some (aR q_S), some (aR 1), some (aR 188), some (aR 211), some (aI v4), none, none] [aI u0] (G, c) Q := by
  refine e_L (L' := [some (aR q_S), some (aR 1), some (aR 188), some (aR 211), some (aI v4), some (aI u0), none]) (st' := []) (show decode (mC 271) 796 = .ok (.istore 5, 2) by decide +kernel) rfl rfl ?_
  refine e_L (L' := [some (aR q_S), some (aR 1), some (aR 188), some (aR 211), some (aI v4), some (aI u0), none]) (st' := [aR 188]) (show decode (mC 271) 798 = .ok (.aload_n 2, 1) by decide +kernel) rfl (by show (if 188 = 0 then none else some (_, _)) = _; rw [if_neg (by decide)]) ?_
  refine e_L (L' := [some (aR q_S), some (aR 1), some (aR 188), some (aR 211), some (aI v4), some (aI u0), none]) (st' := [aR q_S, aR 188]) (show decode (mC 271) 799 = .ok (.aload_n 0, 1) by decide +kernel) rfl (by show (if q_S = 0 then none else some (_, _)) = _; rw [if_neg (by decide)]) ?_
  refine e_L (L' := [some (aR q_S), some (aR 1), some (aR 188), some (aR 211), some (aI v4), some (aI u0), none]) (st' := [aI v4, aR q_S, aR 188]) (show decode (mC 271) 800 = .ok (.iload 4, 2) by decide +kernel) rfl rfl ?_
  refine e_P (st' := [aI 1, aI v4, aR q_S, aR 188]) (show decode (mC 271) 802 = .ok (.iconst 1, 1) by decide +kernel) rfl rfl rfl ?_
  refine e_P (st' := [aI (v4 + 1), aR q_S, aR 188]) (show decode (mC 271) 803 = .ok (.iadd, 1) by decide +kernel) rfl rfl rfl ?_
  refine e_sld (show decode (mC 271) 804 = .ok (.iaload, 1) by decide +kernel) s0 s1 ?_
  exact e_V (as := [aR 188, aI (scr G (v4 + 1))]) (rest := []) (show decode (mC 271) 805 = .ok (.invokevirtual 106, 3) by decide +kernel) (by decide +kernel) (show (decide ((2 : Nat) = mA 223) && decide (223 < q_law)) = true by decide +kernel) rfl (show (0 : Nat) ≤ 8 by decide) (show (2 : Nat) ≤ mL 223 by decide +kernel) rfl (sh_ok hG (by decide +kernel)) m2
theorem b271_808 (hG : Shp G) {v4 v5 u0 : Int}
    (m0 : TM (d + 1) 158 [aR 188] (G, c) (fun r h' => T (d + 2) 271 814 [some (aR q_S), some (aR 1), some (aR 188), some (aR 211), some (aI v4), some (aI v5), some (aI u0)] (r.toList ++ []) h' Q)) :
    T (d + 2) 271 808 [some (aR q_S), some (aR 1), some (aR 188), some (aR 211), some (aI v4), some (aI v5), none] [aI u0] (G, c) Q := by
  refine e_L (L' := [some (aR q_S), some (aR 1), some (aR 188), some (aR 211), some (aI v4), some (aI v5), some (aI u0)]) (st' := []) (show decode (mC 271) 808 = .ok (.istore 6, 2) by decide +kernel) rfl rfl ?_
  refine e_L (L' := [some (aR q_S), some (aR 1), some (aR 188), some (aR 211), some (aI v4), some (aI v5), some (aI u0)]) (st' := [aR 188]) (show decode (mC 271) 810 = .ok (.aload_n 2, 1) by decide +kernel) rfl (by show (if 188 = 0 then none else some (_, _)) = _; rw [if_neg (by decide)]) ?_
  exact e_V (as := [aR 188]) (rest := []) (show decode (mC 271) 811 = .ok (.invokevirtual 56, 3) by decide +kernel) (by decide +kernel) (show (decide ((1 : Nat) = mA 158) && decide (158 < q_law)) = true by decide +kernel) rfl (show (0 : Nat) ≤ 8 by decide) (show (1 : Nat) ≤ mL 158 by decide +kernel) rfl (sh_ok hG (by decide +kernel)) m0
theorem b271_814 (hG : Shp G) {v4 v5 v6 u0 x1 : Int} (hQ : ∀ o o' h', q_eqo o o' → Q o h' → Q o' h')
    (s0 : -2147483648 ≤ u0 ∧ u0 < 2147483648)
    (s1 : -2147483648 ≤ v5 ∧ v5 < 2147483648)
    (k2 : (u0 = v5) → (¬ v5 = 0) → T (d + 2) 271 1328 [some (aR q_S), some (aR 1), some (aR 188), some (aR 211), some (aI v4), none, none] [] (G, c) Q)
    (ex1 : c 211 0 = x1)
    (s4 : (u0 = v5) → (v5 = 0) → -2147483648 ≤ v6 ∧ v6 < 2147483648)
    (s5 : (u0 = v5) → (v5 = 0) → -9223372036854775808 ≤ x1 ∧ x1 < 9223372036854775808)
    (s6 : (u0 = v5) → (v5 = 0) → -9223372036854775808 ≤ v6 ∧ v6 < 9223372036854775808)
    (s7 : (u0 = v5) → (v5 = 0) → -2147483648 ≤ (if x1 < v6 then (-1 : Int) else if x1 = v6 then 0 else 1) ∧ (if x1 < v6 then (-1 : Int) else if x1 = v6 then 0 else 1) < 2147483648)
    (k8 : (u0 = v5) → (v5 = 0) → ((if x1 < v6 then (-1 : Int) else if x1 = v6 then 0 else 1) = 0) → T (d + 2) 271 1328 [some (aR q_S), some (aR 1), some (aR 188), some (aR 211), some (aI v4), none, none] [] (G, c) Q)
    (z9 : (u0 = v5) → (v5 = 0) → (¬ (if x1 < v6 then (-1 : Int) else if x1 = v6 then 0 else 1) = 0) → Q (.inl (some (aI 0))) (G, c))
    (z10 : (¬ u0 = v5) → Q (.inl (some (aI 0))) (G, c)) :
    T (d + 2) 271 814 [some (aR q_S), some (aR 1), some (aR 188), some (aR 211), some (aI v4), some (aI v5), some (aI v6)] [aI u0] (G, c) Q := by
  refine e_L (L' := [some (aR q_S), some (aR 1), some (aR 188), some (aR 211), some (aI v4), some (aI v5), some (aI v6)]) (st' := [aI v5, aI u0]) (show decode (mC 271) 814 = .ok (.iload 5, 2) by decide +kernel) rfl rfl ?_
  refine e_eq2 (t := 821) (show decode (mC 271) 816 = .ok (.if_icmp .eq 5, 3) by decide +kernel) (by decide) s0 s1 (fun p1 => ?_) (fun p1 => ?_)
  · refine e_L (L' := [some (aR q_S), some (aR 1), some (aR 188), some (aR 211), some (aI v4), some (aI v5), some (aI v6)]) (st' := [aI v5]) (show decode (mC 271) 821 = .ok (.iload 5, 2) by decide +kernel) rfl rfl ?_
    refine e_ne1 (t := 838) (show decode (mC 271) 823 = .ok (.ifCond .ne 15, 3) by decide +kernel) (by decide) s1 (fun p2 => ?_) (fun p2 => ?_)
    · refine e_go (t := 1328) (show decode (mC 271) 838 = .ok (.goto 490, 3) by decide +kernel) (by decide) ?_
      exact T_le hQ (leS (leS (leS (leS (leS (leN (leN leE))))))) (k2 p1 p2)
    · refine e_L (L' := [some (aR q_S), some (aR 1), some (aR 188), some (aR 211), some (aI v4), some (aI v5), some (aI v6)]) (st' := [aR 211]) (show decode (mC 271) 826 = .ok (.aload_n 3, 1) by decide +kernel) rfl (by show (if 211 = 0 then none else some (_, _)) = _; rw [if_neg (by decide)]) ?_
      refine e_P (st' := [aI 0, aR 211]) (show decode (mC 271) 827 = .ok (.iconst 0, 1) by decide +kernel) rfl rfl rfl ?_
      refine e_laldx (n := 1) (show decode (mC 271) 828 = .ok (.laload, 1) by decide +kernel) (sh_ok hG (by decide +kernel)) (sh_ln hG (by decide +kernel)) (by decide) (by decide) (by decide) ex1 ?_
      refine e_L (L' := [some (aR q_S), some (aR 1), some (aR 188), some (aR 211), some (aI v4), some (aI v5), some (aI v6)]) (st' := [aI v6, aL x1]) (show decode (mC 271) 829 = .ok (.iload 6, 2) by decide +kernel) rfl rfl ?_
      refine e_i2l (show decode (mC 271) 831 = .ok (.i2l, 1) by decide +kernel) (s4 p1 p2) ?_
      refine e_lcmp (show decode (mC 271) 832 = .ok (.lcmp, 1) by decide +kernel) (s5 p1 p2) (s6 p1 p2) ?_
      refine e_eq1 (t := 838) (show decode (mC 271) 833 = .ok (.ifCond .eq 5, 3) by decide +kernel) (by decide) (s7 p1 p2) (fun p3 => ?_) (fun p3 => ?_)
      · refine e_go (t := 1328) (show decode (mC 271) 838 = .ok (.goto 490, 3) by decide +kernel) (by decide) ?_
        exact T_le hQ (leS (leS (leS (leS (leS (leN (leN leE))))))) (k8 p1 p2 p3)
      · refine e_P (st' := [aI 0]) (show decode (mC 271) 836 = .ok (.iconst 0, 1) by decide +kernel) rfl rfl rfl ?_
        exact e_zret (show decode (mC 271) 837 = .ok (.ireturn, 1) by decide +kernel) rfl (by decide) (z9 p1 p2 p3)
  · refine e_P (st' := [aI 0]) (show decode (mC 271) 819 = .ok (.iconst 0, 1) by decide +kernel) rfl rfl rfl ?_
    exact e_zret (show decode (mC 271) 820 = .ok (.ireturn, 1) by decide +kernel) rfl (by decide) (z10 p1)
end SPl2
