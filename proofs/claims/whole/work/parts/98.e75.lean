section SPl3
variable {d : Nat} {G : GG} {c : CC} {Q : OO → HH → Prop}
theorem b268_841 (hG : Shp G) {v4 : Int}
    (m0 : TM (d + 1) 140 [aR 1] (G, c) (fun r h' => T (d + 2) 268 845 [some (aR q_S), some (aR 1), some (aR 188), some (aR 211), some (aI v4), none, none] (r.toList ++ []) h' Q)) :
    T (d + 2) 268 841 [some (aR q_S), some (aR 1), some (aR 188), some (aR 211), some (aI v4), none, none] [] (G, c) Q := by
  refine e_L (L' := [some (aR q_S), some (aR 1), some (aR 188), some (aR 211), some (aI v4), none, none]) (st' := [aR 1]) (show decode (mC 268) 841 = .ok (.aload_n 1, 1) by decide +kernel) rfl (by show (if 1 = 0 then none else some (_, _)) = _; rw [if_neg (by decide)]) ?_
  exact e_V (as := [aR 1]) (rest := []) (show decode (mC 268) 842 = .ok (.invokevirtual 107, 3) by decide +kernel) (by decide +kernel) (show (decide ((1 : Nat) = mA 140) && decide (140 < q_law)) = true by decide +kernel) rfl (show (0 : Nat) ≤ 8 by decide) (show (1 : Nat) ≤ mL 140 by decide +kernel) rfl (sh_ok hG (by decide +kernel)) m0
theorem b268_845 (hG : Shp G) {v4 u0 : Int}
    (m0 : TM (d + 1) 227 [aR 188] (G, c) (fun r h' => T (d + 2) 268 849 [some (aR q_S), some (aR 1), some (aR 188), some (aR 211), some (aI v4), none, none] (r.toList ++ [aI u0]) h' Q)) :
    T (d + 2) 268 845 [some (aR q_S), some (aR 1), some (aR 188), some (aR 211), some (aI v4), none, none] [aI u0] (G, c) Q := by
  refine e_L (L' := [some (aR q_S), some (aR 1), some (aR 188), some (aR 211), some (aI v4), none, none]) (st' := [aR 188, aI u0]) (show decode (mC 268) 845 = .ok (.aload_n 2, 1) by decide +kernel) rfl (by show (if 188 = 0 then none else some (_, _)) = _; rw [if_neg (by decide)]) ?_
  exact e_V (as := [aR 188]) (rest := [aI u0]) (show decode (mC 268) 846 = .ok (.invokevirtual 110, 3) by decide +kernel) (by decide +kernel) (show (decide ((1 : Nat) = mA 227) && decide (227 < q_law)) = true by decide +kernel) rfl (show (1 : Nat) ≤ 8 by decide) (show (1 : Nat) ≤ mL 227 by decide +kernel) rfl (sh_ok hG (by decide +kernel)) m0
theorem b268_849 (hG : Shp G) {v4 u0 u1 : Int}
    (s0 : -2147483648 ≤ u0 ∧ u0 < 2147483648)
    (s1 : -2147483648 ≤ u1 ∧ u1 < 2147483648)
    (k2 : (u0 = u1) → T (d + 2) 268 1328 [some (aR q_S), some (aR 1), some (aR 188), some (aR 211), some (aI v4), none, none] [] (G, c) Q)
    (z3 : (¬ u0 = u1) → Q (.inl (some (aI 0))) (G, c)) :
    T (d + 2) 268 849 [some (aR q_S), some (aR 1), some (aR 188), some (aR 211), some (aI v4), none, none] [aI u1, aI u0] (G, c) Q := by
  refine e_eq2 (t := 1328) (show decode (mC 268) 849 = .ok (.if_icmp .eq 479, 3) by decide +kernel) (by decide) s0 s1 (fun p1 => ?_) (fun p1 => ?_)
  · exact (k2 p1)
  · refine e_P (st' := [aI 0]) (show decode (mC 268) 852 = .ok (.iconst 0, 1) by decide +kernel) rfl rfl rfl ?_
    exact e_zret (show decode (mC 268) 853 = .ok (.ireturn, 1) by decide +kernel) rfl (by decide) (z3 p1)
theorem b268_854 (hG : Shp G) {v4 : Int}
    (m0 : TM (d + 1) 141 [aR 1] (G, c) (fun r h' => T (d + 2) 268 858 [some (aR q_S), some (aR 1), some (aR 188), some (aR 211), some (aI v4), none, none] (r.toList ++ []) h' Q)) :
    T (d + 2) 268 854 [some (aR q_S), some (aR 1), some (aR 188), some (aR 211), some (aI v4), none, none] [] (G, c) Q := by
  refine e_L (L' := [some (aR q_S), some (aR 1), some (aR 188), some (aR 211), some (aI v4), none, none]) (st' := [aR 1]) (show decode (mC 268) 854 = .ok (.aload_n 1, 1) by decide +kernel) rfl (by show (if 1 = 0 then none else some (_, _)) = _; rw [if_neg (by decide)]) ?_
  exact e_V (as := [aR 1]) (rest := []) (show decode (mC 268) 855 = .ok (.invokevirtual 111, 3) by decide +kernel) (by decide +kernel) (show (decide ((1 : Nat) = mA 141) && decide (141 < q_law)) = true by decide +kernel) rfl (show (0 : Nat) ≤ 8 by decide) (show (1 : Nat) ≤ mL 141 by decide +kernel) rfl (sh_ok hG (by decide +kernel)) m0
theorem b268_858 (hG : Shp G) {v4 u0 : Int}
    (m0 : TM (d + 1) 228 [aR 188] (G, c) (fun r h' => T (d + 2) 268 862 [some (aR q_S), some (aR 1), some (aR 188), some (aR 211), some (aI v4), none, none] (r.toList ++ [aI u0]) h' Q)) :
    T (d + 2) 268 858 [some (aR q_S), some (aR 1), some (aR 188), some (aR 211), some (aI v4), none, none] [aI u0] (G, c) Q := by
  refine e_L (L' := [some (aR q_S), some (aR 1), some (aR 188), some (aR 211), some (aI v4), none, none]) (st' := [aR 188, aI u0]) (show decode (mC 268) 858 = .ok (.aload_n 2, 1) by decide +kernel) rfl (by show (if 188 = 0 then none else some (_, _)) = _; rw [if_neg (by decide)]) ?_
  exact e_V (as := [aR 188]) (rest := [aI u0]) (show decode (mC 268) 859 = .ok (.invokevirtual 114, 3) by decide +kernel) (by decide +kernel) (show (decide ((1 : Nat) = mA 228) && decide (228 < q_law)) = true by decide +kernel) rfl (show (1 : Nat) ≤ 8 by decide) (show (1 : Nat) ≤ mL 228 by decide +kernel) rfl (sh_ok hG (by decide +kernel)) m0
theorem b268_862 (hG : Shp G) {v4 u0 u1 : Int}
    (s0 : -2147483648 ≤ u0 ∧ u0 < 2147483648)
    (s1 : -2147483648 ≤ u1 ∧ u1 < 2147483648)
    (k2 : (u0 = u1) → T (d + 2) 268 1328 [some (aR q_S), some (aR 1), some (aR 188), some (aR 211), some (aI v4), none, none] [] (G, c) Q)
    (z3 : (¬ u0 = u1) → Q (.inl (some (aI 0))) (G, c)) :
    T (d + 2) 268 862 [some (aR q_S), some (aR 1), some (aR 188), some (aR 211), some (aI v4), none, none] [aI u1, aI u0] (G, c) Q := by
  refine e_eq2 (t := 1328) (show decode (mC 268) 862 = .ok (.if_icmp .eq 466, 3) by decide +kernel) (by decide) s0 s1 (fun p1 => ?_) (fun p1 => ?_)
  · exact (k2 p1)
  · refine e_P (st' := [aI 0]) (show decode (mC 268) 865 = .ok (.iconst 0, 1) by decide +kernel) rfl rfl rfl ?_
    exact e_zret (show decode (mC 268) 866 = .ok (.ireturn, 1) by decide +kernel) rfl (by decide) (z3 p1)
theorem b268_867 (hG : Shp G) {v4 : Int}
    (s0 : 0 ≤ (v4 + 1))
    (s1 : (v4 + 1) < (G.2.2.2.2.1 : Int))
    (s2 : 0 ≤ (v4 + 2))
    (s3 : (v4 + 2) < (G.2.2.2.2.1 : Int))
    (m4 : TM (d + 1) 142 [aR 1, aI (scr G (v4 + 1)), aI (scr G (v4 + 2))] (G, c) (fun r h' => T (d + 2) 268 883 [some (aR q_S), some (aR 1), some (aR 188), some (aR 211), some (aI v4), none, none] (r.toList ++ []) h' Q)) :
    T (d + 2) 268 867 [some (aR q_S), some (aR 1), some (aR 188), some (aR 211), some (aI v4), none, none] [] (G, c) Q := by
  refine e_L (L' := [some (aR q_S), some (aR 1), some (aR 188), some (aR 211), some (aI v4), none, none]) (st' := [aR 1]) (show decode (mC 268) 867 = .ok (.aload_n 1, 1) by decide +kernel) rfl (by show (if 1 = 0 then none else some (_, _)) = _; rw [if_neg (by decide)]) ?_
  refine e_L (L' := [some (aR q_S), some (aR 1), some (aR 188), some (aR 211), some (aI v4), none, none]) (st' := [aR q_S, aR 1]) (show decode (mC 268) 868 = .ok (.aload_n 0, 1) by decide +kernel) rfl (by show (if q_S = 0 then none else some (_, _)) = _; rw [if_neg (by decide)]) ?_
  refine e_L (L' := [some (aR q_S), some (aR 1), some (aR 188), some (aR 211), some (aI v4), none, none]) (st' := [aI v4, aR q_S, aR 1]) (show decode (mC 268) 869 = .ok (.iload 4, 2) by decide +kernel) rfl rfl ?_
  refine e_P (st' := [aI 1, aI v4, aR q_S, aR 1]) (show decode (mC 268) 871 = .ok (.iconst 1, 1) by decide +kernel) rfl rfl rfl ?_
  refine e_P (st' := [aI (v4 + 1), aR q_S, aR 1]) (show decode (mC 268) 872 = .ok (.iadd, 1) by decide +kernel) rfl rfl rfl ?_
  refine e_sld (show decode (mC 268) 873 = .ok (.iaload, 1) by decide +kernel) s0 s1 ?_
  refine e_L (L' := [some (aR q_S), some (aR 1), some (aR 188), some (aR 211), some (aI v4), none, none]) (st' := [aR q_S, aI (scr G (v4 + 1)), aR 1]) (show decode (mC 268) 874 = .ok (.aload_n 0, 1) by decide +kernel) rfl (by show (if q_S = 0 then none else some (_, _)) = _; rw [if_neg (by decide)]) ?_
  refine e_L (L' := [some (aR q_S), some (aR 1), some (aR 188), some (aR 211), some (aI v4), none, none]) (st' := [aI v4, aR q_S, aI (scr G (v4 + 1)), aR 1]) (show decode (mC 268) 875 = .ok (.iload 4, 2) by decide +kernel) rfl rfl ?_
  refine e_P (st' := [aI 2, aI v4, aR q_S, aI (scr G (v4 + 1)), aR 1]) (show decode (mC 268) 877 = .ok (.iconst 2, 1) by decide +kernel) rfl rfl rfl ?_
  refine e_P (st' := [aI (v4 + 2), aR q_S, aI (scr G (v4 + 1)), aR 1]) (show decode (mC 268) 878 = .ok (.iadd, 1) by decide +kernel) rfl rfl rfl ?_
  refine e_sld (show decode (mC 268) 879 = .ok (.iaload, 1) by decide +kernel) s2 s3 ?_
  exact e_V (as := [aR 1, aI (scr G (v4 + 1)), aI (scr G (v4 + 2))]) (rest := []) (show decode (mC 268) 880 = .ok (.invokevirtual 115, 3) by decide +kernel) (by decide +kernel) (show (decide ((3 : Nat) = mA 142) && decide (142 < q_law)) = true by decide +kernel) rfl (show (0 : Nat) ≤ 8 by decide) (show (3 : Nat) ≤ mL 142 by decide +kernel) rfl (sh_ok hG (by decide +kernel)) m4
theorem b268_883 (hG : Shp G) {v4 u0 : Int}
    (s0 : 0 ≤ (v4 + 1))
    (s1 : (v4 + 1) < (G.2.2.2.2.1 : Int))
    (s2 : 0 ≤ (v4 + 2))
    (s3 : (v4 + 2) < (G.2.2.2.2.1 : Int))
    (m4 : TM (d + 1) 230 [aR 188, aI (scr G (v4 + 1)), aI (scr G (v4 + 2))] (G, c) (fun r h' => T (d + 2) 268 899 [some (aR q_S), some (aR 1), some (aR 188), some (aR 211), some (aI v4), none, none] (r.toList ++ [aI u0]) h' Q)) :
    T (d + 2) 268 883 [some (aR q_S), some (aR 1), some (aR 188), some (aR 211), some (aI v4), none, none] [aI u0] (G, c) Q := by
  refine e_L (L' := [some (aR q_S), some (aR 1), some (aR 188), some (aR 211), some (aI v4), none, none]) (st' := [aR 188, aI u0]) (show decode (mC 268) 883 = .ok (.aload_n 2, 1) by decide +kernel) rfl (by show (if 188 = 0 then none else some (_, _)) = _; rw [if_neg (by decide)]) ?_
  refine e_L (L' := [some (aR q_S), some (aR 1), some (aR 188), some (aR 211), some (aI v4), none, none]) (st' := [aR q_S, aR 188, aI u0]) (show decode (mC 268) 884 = .ok (.aload_n 0, 1) by decide +kernel) rfl (by show (if q_S = 0 then none else some (_, _)) = _; rw [if_neg (by decide)]) ?_
  refine e_L (L' := [some (aR q_S), some (aR 1), some (aR 188), some (aR 211), some (aI v4), none, none]) (st' := [aI v4, aR q_S, aR 188, aI u0]) (show decode (mC 268) 885 = .ok (.iload 4, 2) by decide +kernel) rfl rfl ?_
  refine e_P (st' := [aI 1, aI v4, aR q_S, aR 188, aI u0]) (show decode (mC 268) 887 = .ok (.iconst 1, 1) by decide +kernel) rfl rfl rfl ?_
  refine e_P (st' := [aI (v4 + 1), aR q_S, aR 188, aI u0]) (show decode (mC 268) 888 = .ok (.iadd, 1) by decide +kernel) rfl rfl rfl ?_
  refine e_sld (show decode (mC 268) 889 = .ok (.iaload, 1) by decide +kernel) s0 s1 ?_
  refine e_L (L' := [some (aR q_S), some (aR 1), some (aR 188), some (aR 211), some (aI v4), none, none]) (st' := [aR q_S, aI (scr G (v4 + 1)), aR 188, aI u0]) (show decode (mC 268) 890 = .ok (.aload_n 0, 1) by decide +kernel) rfl (by show (if q_S = 0 then none else some (_, _)) = _; rw [if_neg (by decide)]) ?_
  refine e_L (L' := [some (aR q_S), some (aR 1), some (aR 188), some (aR 211), some (aI v4), none, none]) (st' := [aI v4, aR q_S, aI (scr G (v4 + 1)), aR 188, aI u0]) (show decode (mC 268) 891 = .ok (.iload 4, 2) by decide +kernel) rfl rfl ?_
  refine e_P (st' := [aI 2, aI v4, aR q_S, aI (scr G (v4 + 1)), aR 188, aI u0]) (show decode (mC 268) 893 = .ok (.iconst 2, 1) by decide +kernel) rfl rfl rfl ?_
  refine e_P (st' := [aI (v4 + 2), aR q_S, aI (scr G (v4 + 1)), aR 188, aI u0]) (show decode (mC 268) 894 = .ok (.iadd, 1) by decide +kernel) rfl rfl rfl ?_
  refine e_sld (show decode (mC 268) 895 = .ok (.iaload, 1) by decide +kernel) s2 s3 ?_
  exact e_V (as := [aR 188, aI (scr G (v4 + 1)), aI (scr G (v4 + 2))]) (rest := [aI u0]) (show decode (mC 268) 896 = .ok (.invokevirtual 118, 3) by decide +kernel) (by decide +kernel) (show (decide ((3 : Nat) = mA 230) && decide (230 < q_law)) = true by decide +kernel) rfl (show (1 : Nat) ≤ 8 by decide) (show (3 : Nat) ≤ mL 230 by decide +kernel) rfl (sh_ok hG (by decide +kernel)) m4
theorem b268_899 (hG : Shp G) {v4 u0 u1 : Int}
    (s0 : -2147483648 ≤ u0 ∧ u0 < 2147483648)
    (s1 : -2147483648 ≤ u1 ∧ u1 < 2147483648)
    (k2 : (u0 = u1) → T (d + 2) 268 1328 [some (aR q_S), some (aR 1), some (aR 188), some (aR 211), some (aI v4), none, none] [] (G, c) Q)
    (z3 : (¬ u0 = u1) → Q (.inl (some (aI 0))) (G, c)) :
    T (d + 2) 268 899 [some (aR q_S), some (aR 1), some (aR 188), some (aR 211), some (aI v4), none, none] [aI u1, aI u0] (G, c) Q := by
  refine e_eq2 (t := 1328) (show decode (mC 268) 899 = .ok (.if_icmp .eq 429, 3) by decide +kernel) (by decide) s0 s1 (fun p1 => ?_) (fun p1 => ?_)
  · exact (k2 p1)
  · refine e_P (st' := [aI 0]) (show decode (mC 268) 902 = .ok (.iconst 0, 1) by decide +kernel) rfl rfl rfl ?_
    exact e_zret (show decode (mC 268) 903 = .ok (.ireturn, 1) by decide +kernel) rfl (by decide) (z3 p1)
theorem b268_904 (hG : Shp G) {v4 : Int}
    (s0 : 0 ≤ (v4 + 1))
    (s1 : (v4 + 1) < (G.2.2.2.2.1 : Int))
    (m2 : TM (d + 1) 143 [aR 1, aI (scr G (v4 + 1))] (G, c) (fun r h' => T (d + 2) 268 914 [some (aR q_S), some (aR 1), some (aR 188), some (aR 211), some (aI v4), none, none] (r.toList ++ []) h' Q)) :
    T (d + 2) 268 904 [some (aR q_S), some (aR 1), some (aR 188), some (aR 211), some (aI v4), none, none] [] (G, c) Q := by
  refine e_L (L' := [some (aR q_S), some (aR 1), some (aR 188), some (aR 211), some (aI v4), none, none]) (st' := [aR 1]) (show decode (mC 268) 904 = .ok (.aload_n 1, 1) by decide +kernel) rfl (by show (if 1 = 0 then none else some (_, _)) = _; rw [if_neg (by decide)]) ?_
  refine e_L (L' := [some (aR q_S), some (aR 1), some (aR 188), some (aR 211), some (aI v4), none, none]) (st' := [aR q_S, aR 1]) (show decode (mC 268) 905 = .ok (.aload_n 0, 1) by decide +kernel) rfl (by show (if q_S = 0 then none else some (_, _)) = _; rw [if_neg (by decide)]) ?_
  refine e_L (L' := [some (aR q_S), some (aR 1), some (aR 188), some (aR 211), some (aI v4), none, none]) (st' := [aI v4, aR q_S, aR 1]) (show decode (mC 268) 906 = .ok (.iload 4, 2) by decide +kernel) rfl rfl ?_
  refine e_P (st' := [aI 1, aI v4, aR q_S, aR 1]) (show decode (mC 268) 908 = .ok (.iconst 1, 1) by decide +kernel) rfl rfl rfl ?_
  refine e_P (st' := [aI (v4 + 1), aR q_S, aR 1]) (show decode (mC 268) 909 = .ok (.iadd, 1) by decide +kernel) rfl rfl rfl ?_
  refine e_sld (show decode (mC 268) 910 = .ok (.iaload, 1) by decide +kernel) s0 s1 ?_
  exact e_V (as := [aR 1, aI (scr G (v4 + 1))]) (rest := []) (show decode (mC 268) 911 = .ok (.invokevirtual 119, 3) by decide +kernel) (by decide +kernel) (show (decide ((2 : Nat) = mA 143) && decide (143 < q_law)) = true by decide +kernel) rfl (show (0 : Nat) ≤ 8 by decide) (show (2 : Nat) ≤ mL 143 by decide +kernel) rfl (sh_ok hG (by decide +kernel)) m2
theorem b268_914 (hG : Shp G) {v4 u0 : Int}
    (s0 : 0 ≤ (v4 + 1))
    (s1 : (v4 + 1) < (G.2.2.2.2.1 : Int))
    (m2 : TM (d + 1) 231 [aR 188, aI (scr G (v4 + 1))] (G, c) (fun r h' => T (d + 2) 268 924 [some (aR q_S), some (aR 1), some (aR 188), some (aR 211), some (aI v4), none, none] (r.toList ++ [aI u0]) h' Q)) :
    T (d + 2) 268 914 [some (aR q_S), some (aR 1), some (aR 188), some (aR 211), some (aI v4), none, none] [aI u0] (G, c) Q := by
  refine e_L (L' := [some (aR q_S), some (aR 1), some (aR 188), some (aR 211), some (aI v4), none, none]) (st' := [aR 188, aI u0]) (show decode (mC 268) 914 = .ok (.aload_n 2, 1) by decide +kernel) rfl (by show (if 188 = 0 then none else some (_, _)) = _; rw [if_neg (by decide)]) ?_
  refine e_L (L' := [some (aR q_S), some (aR 1), some (aR 188), some (aR 211), some (aI v4), none, none]) (st' := [aR q_S, aR 188, aI u0]) (show decode (mC 268) 915 = .ok (.aload_n 0, 1) by decide +kernel) rfl (by show (if q_S = 0 then none else some (_, _)) = _; rw [if_neg (by decide)]) ?_
  refine e_L (L' := [some (aR q_S), some (aR 1), some (aR 188), some (aR 211), some (aI v4), none, none]) (st' := [aI v4, aR q_S, aR 188, aI u0]) (show decode (mC 268) 916 = .ok (.iload 4, 2) by decide +kernel) rfl rfl ?_
  refine e_P (st' := [aI 1, aI v4, aR q_S, aR 188, aI u0]) (show decode (mC 268) 918 = .ok (.iconst 1, 1) by decide +kernel) rfl rfl rfl ?_
  refine e_P (st' := [aI (v4 + 1), aR q_S, aR 188, aI u0]) (show decode (mC 268) 919 = .ok (.iadd, 1) by decide +kernel) rfl rfl rfl ?_
  refine e_sld (show decode (mC 268) 920 = .ok (.iaload, 1) by decide +kernel) s0 s1 ?_
  exact e_V (as := [aR 188, aI (scr G (v4 + 1))]) (rest := [aI u0]) (show decode (mC 268) 921 = .ok (.invokevirtual 122, 3) by decide +kernel) (by decide +kernel) (show (decide ((2 : Nat) = mA 231) && decide (231 < q_law)) = true by decide +kernel) rfl (show (1 : Nat) ≤ 8 by decide) (show (2 : Nat) ≤ mL 231 by decide +kernel) rfl (sh_ok hG (by decide +kernel)) m2
theorem b268_924 (hG : Shp G) {v4 u0 u1 : Int}
    (s0 : -2147483648 ≤ u0 ∧ u0 < 2147483648)
    (s1 : -2147483648 ≤ u1 ∧ u1 < 2147483648)
    (k2 : (u0 = u1) → T (d + 2) 268 1328 [some (aR q_S), some (aR 1), some (aR 188), some (aR 211), some (aI v4), none, none] [] (G, c) Q)
    (z3 : (¬ u0 = u1) → Q (.inl (some (aI 0))) (G, c)) :
    T (d + 2) 268 924 [some (aR q_S), some (aR 1), some (aR 188), some (aR 211), some (aI v4), none, none] [aI u1, aI u0] (G, c) Q := by
  refine e_eq2 (t := 1328) (show decode (mC 268) 924 = .ok (.if_icmp .eq 404, 3) by decide +kernel) (by decide) s0 s1 (fun p1 => ?_) (fun p1 => ?_)
  · exact (k2 p1)
  · refine e_P (st' := [aI 0]) (show decode (mC 268) 927 = .ok (.iconst 0, 1) by decide +kernel) rfl rfl rfl ?_
    exact e_zret (show decode (mC 268) 928 = .ok (.ireturn, 1) by decide +kernel) rfl (by decide) (z3 p1)
theorem b268_929 (hG : Shp G) {v4 : Int}
    (s0 : 0 ≤ (v4 + 1))
    (s1 : (v4 + 1) < (G.2.2.2.2.1 : Int))
    (s2 : 0 ≤ (v4 + 2))
    (s3 : (v4 + 2) < (G.2.2.2.2.1 : Int))
    (m4 : TM (d + 1) 131 [aR 1, aI (scr G (v4 + 1)), aI (scr G (v4 + 2))] (G, c) (fun r h' => T (d + 2) 268 945 [some (aR q_S), some (aR 1), some (aR 188), some (aR 211), some (aI v4), none, none] (r.toList ++ []) h' Q)) :
    T (d + 2) 268 929 [some (aR q_S), some (aR 1), some (aR 188), some (aR 211), some (aI v4), none, none] [] (G, c) Q := by
  refine e_L (L' := [some (aR q_S), some (aR 1), some (aR 188), some (aR 211), some (aI v4), none, none]) (st' := [aR 1]) (show decode (mC 268) 929 = .ok (.aload_n 1, 1) by decide +kernel) rfl (by show (if 1 = 0 then none else some (_, _)) = _; rw [if_neg (by decide)]) ?_
  refine e_L (L' := [some (aR q_S), some (aR 1), some (aR 188), some (aR 211), some (aI v4), none, none]) (st' := [aR q_S, aR 1]) (show decode (mC 268) 930 = .ok (.aload_n 0, 1) by decide +kernel) rfl (by show (if q_S = 0 then none else some (_, _)) = _; rw [if_neg (by decide)]) ?_
  refine e_L (L' := [some (aR q_S), some (aR 1), some (aR 188), some (aR 211), some (aI v4), none, none]) (st' := [aI v4, aR q_S, aR 1]) (show decode (mC 268) 931 = .ok (.iload 4, 2) by decide +kernel) rfl rfl ?_
  refine e_P (st' := [aI 1, aI v4, aR q_S, aR 1]) (show decode (mC 268) 933 = .ok (.iconst 1, 1) by decide +kernel) rfl rfl rfl ?_
  refine e_P (st' := [aI (v4 + 1), aR q_S, aR 1]) (show decode (mC 268) 934 = .ok (.iadd, 1) by decide +kernel) rfl rfl rfl ?_
  refine e_sld (show decode (mC 268) 935 = .ok (.iaload, 1) by decide +kernel) s0 s1 ?_
  refine e_L (L' := [some (aR q_S), some (aR 1), some (aR 188), some (aR 211), some (aI v4), none, none]) (st' := [aR q_S, aI (scr G (v4 + 1)), aR 1]) (show decode (mC 268) 936 = .ok (.aload_n 0, 1) by decide +kernel) rfl (by show (if q_S = 0 then none else some (_, _)) = _; rw [if_neg (by decide)]) ?_
  refine e_L (L' := [some (aR q_S), some (aR 1), some (aR 188), some (aR 211), some (aI v4), none, none]) (st' := [aI v4, aR q_S, aI (scr G (v4 + 1)), aR 1]) (show decode (mC 268) 937 = .ok (.iload 4, 2) by decide +kernel) rfl rfl ?_
  refine e_P (st' := [aI 2, aI v4, aR q_S, aI (scr G (v4 + 1)), aR 1]) (show decode (mC 268) 939 = .ok (.iconst 2, 1) by decide +kernel) rfl rfl rfl ?_
  refine e_P (st' := [aI (v4 + 2), aR q_S, aI (scr G (v4 + 1)), aR 1]) (show decode (mC 268) 940 = .ok (.iadd, 1) by decide +kernel) rfl rfl rfl ?_
  refine e_sld (show decode (mC 268) 941 = .ok (.iaload, 1) by decide +kernel) s2 s3 ?_
  exact e_V (as := [aR 1, aI (scr G (v4 + 1)), aI (scr G (v4 + 2))]) (rest := []) (show decode (mC 268) 942 = .ok (.invokevirtual 123, 3) by decide +kernel) (by decide +kernel) (show (decide ((3 : Nat) = mA 131) && decide (131 < q_law)) = true by decide +kernel) rfl (show (0 : Nat) ≤ 8 by decide) (show (3 : Nat) ≤ mL 131 by decide +kernel) rfl (sh_ok hG (by decide +kernel)) m4
theorem b268_945 (hG : Shp G) {v4 u0 : Int}
    (s0 : 0 ≤ (v4 + 1))
    (s1 : (v4 + 1) < (G.2.2.2.2.1 : Int))
    (s2 : 0 ≤ (v4 + 2))
    (s3 : (v4 + 2) < (G.2.2.2.2.1 : Int))
    (m4 : TM (d + 1) 236 [aR 188, aI (scr G (v4 + 1)), aI (scr G (v4 + 2))] (G, c) (fun r h' => T (d + 2) 268 961 [some (aR q_S), some (aR 1), some (aR 188), some (aR 211), some (aI v4), none, none] (r.toList ++ [aI u0]) h' Q)) :
    T (d + 2) 268 945 [some (aR q_S), some (aR 1), some (aR 188), some (aR 211), some (aI v4), none, none] [aI u0] (G, c) Q := by
  refine e_L (L' := [some (aR q_S), some (aR 1), some (aR 188), some (aR 211), some (aI v4), none, none]) (st' := [aR 188, aI u0]) (show decode (mC 268) 945 = .ok (.aload_n 2, 1) by decide +kernel) rfl (by show (if 188 = 0 then none else some (_, _)) = _; rw [if_neg (by decide)]) ?_
  refine e_L (L' := [some (aR q_S), some (aR 1), some (aR 188), some (aR 211), some (aI v4), none, none]) (st' := [aR q_S, aR 188, aI u0]) (show decode (mC 268) 946 = .ok (.aload_n 0, 1) by decide +kernel) rfl (by show (if q_S = 0 then none else some (_, _)) = _; rw [if_neg (by decide)]) ?_
  refine e_L (L' := [some (aR q_S), some (aR 1), some (aR 188), some (aR 211), some (aI v4), none, none]) (st' := [aI v4, aR q_S, aR 188, aI u0]) (show decode (mC 268) 947 = .ok (.iload 4, 2) by decide +kernel) rfl rfl ?_
  refine e_P (st' := [aI 1, aI v4, aR q_S, aR 188, aI u0]) (show decode (mC 268) 949 = .ok (.iconst 1, 1) by decide +kernel) rfl rfl rfl ?_
  refine e_P (st' := [aI (v4 + 1), aR q_S, aR 188, aI u0]) (show decode (mC 268) 950 = .ok (.iadd, 1) by decide +kernel) rfl rfl rfl ?_
  refine e_sld (show decode (mC 268) 951 = .ok (.iaload, 1) by decide +kernel) s0 s1 ?_
  refine e_L (L' := [some (aR q_S), some (aR 1), some (aR 188), some (aR 211), some (aI v4), none, none]) (st' := [aR q_S, aI (scr G (v4 + 1)), aR 188, aI u0]) (show decode (mC 268) 952 = .ok (.aload_n 0, 1) by decide +kernel) rfl (by show (if q_S = 0 then none else some (_, _)) = _; rw [if_neg (by decide)]) ?_
  refine e_L (L' := [some (aR q_S), some (aR 1), some (aR 188), some (aR 211), some (aI v4), none, none]) (st' := [aI v4, aR q_S, aI (scr G (v4 + 1)), aR 188, aI u0]) (show decode (mC 268) 953 = .ok (.iload 4, 2) by decide +kernel) rfl rfl ?_
  refine e_P (st' := [aI 2, aI v4, aR q_S, aI (scr G (v4 + 1)), aR 188, aI u0]) (show decode (mC 268) 955 = .ok (.iconst 2, 1) by decide +kernel) rfl rfl rfl ?_
  refine e_P (st' := [aI (v4 + 2), aR q_S, aI (scr G (v4 + 1)), aR 188, aI u0]) (show decode (mC 268) 956 = .ok (.iadd, 1) by decide +kernel) rfl rfl rfl ?_
  refine e_sld (show decode (mC 268) 957 = .ok (.iaload, 1) by decide +kernel) s2 s3 ?_
  exact e_V (as := [aR 188, aI (scr G (v4 + 1)), aI (scr G (v4 + 2))]) (rest := [aI u0]) (show decode (mC 268) 958 = .ok (.invokevirtual 126, 3) by decide +kernel) (by decide +kernel) (show (decide ((3 : Nat) = mA 236) && decide (236 < q_law)) = true by decide +kernel) rfl (show (1 : Nat) ≤ 8 by decide) (show (3 : Nat) ≤ mL 236 by decide +kernel) rfl (sh_ok hG (by decide +kernel)) m4
theorem b268_961 (hG : Shp G) {v4 u0 u1 : Int}
    (s0 : -2147483648 ≤ u0 ∧ u0 < 2147483648)
    (s1 : -2147483648 ≤ u1 ∧ u1 < 2147483648)
    (k2 : (u0 = u1) → T (d + 2) 268 1328 [some (aR q_S), some (aR 1), some (aR 188), some (aR 211), some (aI v4), none, none] [] (G, c) Q)
    (z3 : (¬ u0 = u1) → Q (.inl (some (aI 0))) (G, c)) :
    T (d + 2) 268 961 [some (aR q_S), some (aR 1), some (aR 188), some (aR 211), some (aI v4), none, none] [aI u1, aI u0] (G, c) Q := by
  refine e_eq2 (t := 1328) (show decode (mC 268) 961 = .ok (.if_icmp .eq 367, 3) by decide +kernel) (by decide) s0 s1 (fun p1 => ?_) (fun p1 => ?_)
  · exact (k2 p1)
  · refine e_P (st' := [aI 0]) (show decode (mC 268) 964 = .ok (.iconst 0, 1) by decide +kernel) rfl rfl rfl ?_
    exact e_zret (show decode (mC 268) 965 = .ok (.ireturn, 1) by decide +kernel) rfl (by decide) (z3 p1)
theorem b268_966 (hG : Shp G) {v4 : Int}
    (s0 : 0 ≤ (v4 + 1))
    (s1 : (v4 + 1) < (G.2.2.2.2.1 : Int))
    (s2 : 0 ≤ (v4 + 2))
    (s3 : (v4 + 2) < (G.2.2.2.2.1 : Int))
    (m4 : TM (d + 1) 132 [aR 1, aI (scr G (v4 + 1)), aI (scr G (v4 + 2))] (G, c) (fun r h' => T (d + 2) 268 982 [some (aR q_S), some (aR 1), some (aR 188), some (aR 211), some (aI v4), none, none] (r.toList ++ []) h' Q)) :
    T (d + 2) 268 966 [some (aR q_S), some (aR 1), some (aR 188), some (aR 211), some (aI v4), none, none] [] (G, c) Q := by
  refine e_L (L' := [some (aR q_S), some (aR 1), some (aR 188), some (aR 211), some (aI v4), none, none]) (st' := [aR 1]) (show decode (mC 268) 966 = .ok (.aload_n 1, 1) by decide +kernel) rfl (by show (if 1 = 0 then none else some (_, _)) = _; rw [if_neg (by decide)]) ?_
  refine e_L (L' := [some (aR q_S), some (aR 1), some (aR 188), some (aR 211), some (aI v4), none, none]) (st' := [aR q_S, aR 1]) (show decode (mC 268) 967 = .ok (.aload_n 0, 1) by decide +kernel) rfl (by show (if q_S = 0 then none else some (_, _)) = _; rw [if_neg (by decide)]) ?_
  refine e_L (L' := [some (aR q_S), some (aR 1), some (aR 188), some (aR 211), some (aI v4), none, none]) (st' := [aI v4, aR q_S, aR 1]) (show decode (mC 268) 968 = .ok (.iload 4, 2) by decide +kernel) rfl rfl ?_
  refine e_P (st' := [aI 1, aI v4, aR q_S, aR 1]) (show decode (mC 268) 970 = .ok (.iconst 1, 1) by decide +kernel) rfl rfl rfl ?_
  refine e_P (st' := [aI (v4 + 1), aR q_S, aR 1]) (show decode (mC 268) 971 = .ok (.iadd, 1) by decide +kernel) rfl rfl rfl ?_
  refine e_sld (show decode (mC 268) 972 = .ok (.iaload, 1) by decide +kernel) s0 s1 ?_
  refine e_L (L' := [some (aR q_S), some (aR 1), some (aR 188), some (aR 211), some (aI v4), none, none]) (st' := [aR q_S, aI (scr G (v4 + 1)), aR 1]) (show decode (mC 268) 973 = .ok (.aload_n 0, 1) by decide +kernel) rfl (by show (if q_S = 0 then none else some (_, _)) = _; rw [if_neg (by decide)]) ?_
  refine e_L (L' := [some (aR q_S), some (aR 1), some (aR 188), some (aR 211), some (aI v4), none, none]) (st' := [aI v4, aR q_S, aI (scr G (v4 + 1)), aR 1]) (show decode (mC 268) 974 = .ok (.iload 4, 2) by decide +kernel) rfl rfl ?_
  refine e_P (st' := [aI 2, aI v4, aR q_S, aI (scr G (v4 + 1)), aR 1]) (show decode (mC 268) 976 = .ok (.iconst 2, 1) by decide +kernel) rfl rfl rfl ?_
  refine e_P (st' := [aI (v4 + 2), aR q_S, aI (scr G (v4 + 1)), aR 1]) (show decode (mC 268) 977 = .ok (.iadd, 1) by decide +kernel) rfl rfl rfl ?_
  refine e_sld (show decode (mC 268) 978 = .ok (.iaload, 1) by decide +kernel) s2 s3 ?_
  exact e_V (as := [aR 1, aI (scr G (v4 + 1)), aI (scr G (v4 + 2))]) (rest := []) (show decode (mC 268) 979 = .ok (.invokevirtual 127, 3) by decide +kernel) (by decide +kernel) (show (decide ((3 : Nat) = mA 132) && decide (132 < q_law)) = true by decide +kernel) rfl (show (0 : Nat) ≤ 8 by decide) (show (3 : Nat) ≤ mL 132 by decide +kernel) rfl (sh_ok hG (by decide +kernel)) m4
theorem b268_982 (hG : Shp G) {v4 u0 : Int}
    (s0 : 0 ≤ (v4 + 1))
    (s1 : (v4 + 1) < (G.2.2.2.2.1 : Int))
    (s2 : 0 ≤ (v4 + 2))
    (s3 : (v4 + 2) < (G.2.2.2.2.1 : Int))
    (m4 : TM (d + 1) 237 [aR 188, aI (scr G (v4 + 1)), aI (scr G (v4 + 2))] (G, c) (fun r h' => T (d + 2) 268 998 [some (aR q_S), some (aR 1), some (aR 188), some (aR 211), some (aI v4), none, none] (r.toList ++ [aI u0]) h' Q)) :
    T (d + 2) 268 982 [some (aR q_S), some (aR 1), some (aR 188), some (aR 211), some (aI v4), none, none] [aI u0] (G, c) Q := by
  refine e_L (L' := [some (aR q_S), some (aR 1), some (aR 188), some (aR 211), some (aI v4), none, none]) (st' := [aR 188, aI u0]) (show decode (mC 268) 982 = .ok (.aload_n 2, 1) by decide +kernel) rfl (by show (if 188 = 0 then none else some (_, _)) = _; rw [if_neg (by decide)]) ?_
  refine e_L (L' := [some (aR q_S), some (aR 1), some (aR 188), some (aR 211), some (aI v4), none, none]) (st' := [aR q_S, aR 188, aI u0]) (show decode (mC 268) 983 = .ok (.aload_n 0, 1) by decide +kernel) rfl (by show (if q_S = 0 then none else some (_, _)) = _; rw [if_neg (by decide)]) ?_
  refine e_L (L' := [some (aR q_S), some (aR 1), some (aR 188), some (aR 211), some (aI v4), none, none]) (st' := [aI v4, aR q_S, aR 188, aI u0]) (show decode (mC 268) 984 = .ok (.iload 4, 2) by decide +kernel) rfl rfl ?_
  refine e_P (st' := [aI 1, aI v4, aR q_S, aR 188, aI u0]) (show decode (mC 268) 986 = .ok (.iconst 1, 1) by decide +kernel) rfl rfl rfl ?_
  refine e_P (st' := [aI (v4 + 1), aR q_S, aR 188, aI u0]) (show decode (mC 268) 987 = .ok (.iadd, 1) by decide +kernel) rfl rfl rfl ?_
  refine e_sld (show decode (mC 268) 988 = .ok (.iaload, 1) by decide +kernel) s0 s1 ?_
  refine e_L (L' := [some (aR q_S), some (aR 1), some (aR 188), some (aR 211), some (aI v4), none, none]) (st' := [aR q_S, aI (scr G (v4 + 1)), aR 188, aI u0]) (show decode (mC 268) 989 = .ok (.aload_n 0, 1) by decide +kernel) rfl (by show (if q_S = 0 then none else some (_, _)) = _; rw [if_neg (by decide)]) ?_
  refine e_L (L' := [some (aR q_S), some (aR 1), some (aR 188), some (aR 211), some (aI v4), none, none]) (st' := [aI v4, aR q_S, aI (scr G (v4 + 1)), aR 188, aI u0]) (show decode (mC 268) 990 = .ok (.iload 4, 2) by decide +kernel) rfl rfl ?_
  refine e_P (st' := [aI 2, aI v4, aR q_S, aI (scr G (v4 + 1)), aR 188, aI u0]) (show decode (mC 268) 992 = .ok (.iconst 2, 1) by decide +kernel) rfl rfl rfl ?_
  refine e_P (st' := [aI (v4 + 2), aR q_S, aI (scr G (v4 + 1)), aR 188, aI u0]) (show decode (mC 268) 993 = .ok (.iadd, 1) by decide +kernel) rfl rfl rfl ?_
  refine e_sld (show decode (mC 268) 994 = .ok (.iaload, 1) by decide +kernel) s2 s3 ?_
  exact e_V (as := [aR 188, aI (scr G (v4 + 1)), aI (scr G (v4 + 2))]) (rest := [aI u0]) (show decode (mC 268) 995 = .ok (.invokevirtual 131, 3) by decide +kernel) (by decide +kernel) (show (decide ((3 : Nat) = mA 237) && decide (237 < q_law)) = true by decide +kernel) rfl (show (1 : Nat) ≤ 8 by decide) (show (3 : Nat) ≤ mL 237 by decide +kernel) rfl (sh_ok hG (by decide +kernel)) m4
theorem b268_998 (hG : Shp G) {v4 u0 u1 : Int}
    (s0 : -2147483648 ≤ u0 ∧ u0 < 2147483648)
    (s1 : -2147483648 ≤ u1 ∧ u1 < 2147483648)
    (k2 : (u0 = u1) → T (d + 2) 268 1328 [some (aR q_S), some (aR 1), some (aR 188), some (aR 211), some (aI v4), none, none] [] (G, c) Q)
    (z3 : (¬ u0 = u1) → Q (.inl (some (aI 0))) (G, c)) :
    T (d + 2) 268 998 [some (aR q_S), some (aR 1), some (aR 188), some (aR 211), some (aI v4), none, none] [aI u1, aI u0] (G, c) Q := by
  refine e_eq2 (t := 1328) (show decode (mC 268) 998 = .ok (.if_icmp .eq 330, 3) by decide +kernel) (by decide) s0 s1 (fun p1 => ?_) (fun p1 => ?_)
  · exact (k2 p1)
  · refine e_P (st' := [aI 0]) (show decode (mC 268) 1001 = .ok (.iconst 0, 1) by decide +kernel) rfl rfl rfl ?_
    exact e_zret (show decode (mC 268) 1002 = .ok (.ireturn, 1) by decide +kernel) rfl (by decide) (z3 p1)
theorem b268_1003 (hG : Shp G) {v4 : Int}
    (m0 : TM (d + 1) 144 [aR 1] (G, c) (fun r h' => T (d + 2) 268 1007 [some (aR q_S), some (aR 1), some (aR 188), some (aR 211), some (aI v4), none, none] (r.toList ++ []) h' Q)) :
    T (d + 2) 268 1003 [some (aR q_S), some (aR 1), some (aR 188), some (aR 211), some (aI v4), none, none] [] (G, c) Q := by
  refine e_L (L' := [some (aR q_S), some (aR 1), some (aR 188), some (aR 211), some (aI v4), none, none]) (st' := [aR 1]) (show decode (mC 268) 1003 = .ok (.aload_n 1, 1) by decide +kernel) rfl (by show (if 1 = 0 then none else some (_, _)) = _; rw [if_neg (by decide)]) ?_
  exact e_V (as := [aR 1]) (rest := []) (show decode (mC 268) 1004 = .ok (.invokevirtual 132, 3) by decide +kernel) (by decide +kernel) (show (decide ((1 : Nat) = mA 144) && decide (144 < q_law)) = true by decide +kernel) rfl (show (0 : Nat) ≤ 8 by decide) (show (1 : Nat) ≤ mL 144 by decide +kernel) rfl (sh_ok hG (by decide +kernel)) m0
theorem b268_1007 (hG : Shp G) {v4 u0 : Int}
    (m0 : TM (d + 1) 238 [aR 188] (G, c) (fun r h' => T (d + 2) 268 1011 [some (aR q_S), some (aR 1), some (aR 188), some (aR 211), some (aI v4), none, none] (r.toList ++ [aI u0]) h' Q)) :
    T (d + 2) 268 1007 [some (aR q_S), some (aR 1), some (aR 188), some (aR 211), some (aI v4), none, none] [aI u0] (G, c) Q := by
  refine e_L (L' := [some (aR q_S), some (aR 1), some (aR 188), some (aR 211), some (aI v4), none, none]) (st' := [aR 188, aI u0]) (show decode (mC 268) 1007 = .ok (.aload_n 2, 1) by decide +kernel) rfl (by show (if 188 = 0 then none else some (_, _)) = _; rw [if_neg (by decide)]) ?_
  exact e_V (as := [aR 188]) (rest := [aI u0]) (show decode (mC 268) 1008 = .ok (.invokevirtual 135, 3) by decide +kernel) (by decide +kernel) (show (decide ((1 : Nat) = mA 238) && decide (238 < q_law)) = true by decide +kernel) rfl (show (1 : Nat) ≤ 8 by decide) (show (1 : Nat) ≤ mL 238 by decide +kernel) rfl (sh_ok hG (by decide +kernel)) m0
theorem b268_1011 (hG : Shp G) {v4 u0 u1 : Int}
    (s0 : -2147483648 ≤ u0 ∧ u0 < 2147483648)
    (s1 : -2147483648 ≤ u1 ∧ u1 < 2147483648)
    (k2 : (u0 = u1) → T (d + 2) 268 1328 [some (aR q_S), some (aR 1), some (aR 188), some (aR 211), some (aI v4), none, none] [] (G, c) Q)
    (z3 : (¬ u0 = u1) → Q (.inl (some (aI 0))) (G, c)) :
    T (d + 2) 268 1011 [some (aR q_S), some (aR 1), some (aR 188), some (aR 211), some (aI v4), none, none] [aI u1, aI u0] (G, c) Q := by
  refine e_eq2 (t := 1328) (show decode (mC 268) 1011 = .ok (.if_icmp .eq 317, 3) by decide +kernel) (by decide) s0 s1 (fun p1 => ?_) (fun p1 => ?_)
  · exact (k2 p1)
  · refine e_P (st' := [aI 0]) (show decode (mC 268) 1014 = .ok (.iconst 0, 1) by decide +kernel) rfl rfl rfl ?_
    exact e_zret (show decode (mC 268) 1015 = .ok (.ireturn, 1) by decide +kernel) rfl (by decide) (z3 p1)
theorem b268_1016 (hG : Shp G) {v4 : Int}
    (s0 : 0 ≤ (v4 + 1))
    (s1 : (v4 + 1) < (G.2.2.2.2.1 : Int))
    (m2 : TM (d + 1) 145 [aR 1, aI (scr G (v4 + 1))] (G, c) (fun r h' => T (d + 2) 268 1026 [some (aR q_S), some (aR 1), some (aR 188), some (aR 211), some (aI v4), none, none] (r.toList ++ []) h' Q)) :
    T (d + 2) 268 1016 [some (aR q_S), some (aR 1), some (aR 188), some (aR 211), some (aI v4), none, none] [] (G, c) Q := by
  refine e_L (L' := [some (aR q_S), some (aR 1), some (aR 188), some (aR 211), some (aI v4), none, none]) (st' := [aR 1]) (show decode (mC 268) 1016 = .ok (.aload_n 1, 1) by decide +kernel) rfl (by show (if 1 = 0 then none else some (_, _)) = _; rw [if_neg (by decide)]) ?_
  refine e_L (L' := [some (aR q_S), some (aR 1), some (aR 188), some (aR 211), some (aI v4), none, none]) (st' := [aR q_S, aR 1]) (show decode (mC 268) 1017 = .ok (.aload_n 0, 1) by decide +kernel) rfl (by show (if q_S = 0 then none else some (_, _)) = _; rw [if_neg (by decide)]) ?_
  refine e_L (L' := [some (aR q_S), some (aR 1), some (aR 188), some (aR 211), some (aI v4), none, none]) (st' := [aI v4, aR q_S, aR 1]) (show decode (mC 268) 1018 = .ok (.iload 4, 2) by decide +kernel) rfl rfl ?_
  refine e_P (st' := [aI 1, aI v4, aR q_S, aR 1]) (show decode (mC 268) 1020 = .ok (.iconst 1, 1) by decide +kernel) rfl rfl rfl ?_
  refine e_P (st' := [aI (v4 + 1), aR q_S, aR 1]) (show decode (mC 268) 1021 = .ok (.iadd, 1) by decide +kernel) rfl rfl rfl ?_
  refine e_sld (show decode (mC 268) 1022 = .ok (.iaload, 1) by decide +kernel) s0 s1 ?_
  exact e_V (as := [aR 1, aI (scr G (v4 + 1))]) (rest := []) (show decode (mC 268) 1023 = .ok (.invokevirtual 136, 3) by decide +kernel) (by decide +kernel) (show (decide ((2 : Nat) = mA 145) && decide (145 < q_law)) = true by decide +kernel) rfl (show (0 : Nat) ≤ 8 by decide) (show (2 : Nat) ≤ mL 145 by decide +kernel) rfl (sh_ok hG (by decide +kernel)) m2
theorem b268_1026 (hG : Shp G) {v4 u0 : Int}
    (s0 : 0 ≤ (v4 + 1))
    (s1 : (v4 + 1) < (G.2.2.2.2.1 : Int))
    (m2 : TM (d + 1) 240 [aR 188, aI (scr G (v4 + 1))] (G, c) (fun r h' => T (d + 2) 268 1036 [some (aR q_S), some (aR 1), some (aR 188), some (aR 211), some (aI v4), none, none] (r.toList ++ [aI u0]) h' Q)) :
    T (d + 2) 268 1026 [some (aR q_S), some (aR 1), some (aR 188), some (aR 211), some (aI v4), none, none] [aI u0] (G, c) Q := by
  refine e_L (L' := [some (aR q_S), some (aR 1), some (aR 188), some (aR 211), some (aI v4), none, none]) (st' := [aR 188, aI u0]) (show decode (mC 268) 1026 = .ok (.aload_n 2, 1) by decide +kernel) rfl (by show (if 188 = 0 then none else some (_, _)) = _; rw [if_neg (by decide)]) ?_
  refine e_L (L' := [some (aR q_S), some (aR 1), some (aR 188), some (aR 211), some (aI v4), none, none]) (st' := [aR q_S, aR 188, aI u0]) (show decode (mC 268) 1027 = .ok (.aload_n 0, 1) by decide +kernel) rfl (by show (if q_S = 0 then none else some (_, _)) = _; rw [if_neg (by decide)]) ?_
  refine e_L (L' := [some (aR q_S), some (aR 1), some (aR 188), some (aR 211), some (aI v4), none, none]) (st' := [aI v4, aR q_S, aR 188, aI u0]) (show decode (mC 268) 1028 = .ok (.iload 4, 2) by decide +kernel) rfl rfl ?_
  refine e_P (st' := [aI 1, aI v4, aR q_S, aR 188, aI u0]) (show decode (mC 268) 1030 = .ok (.iconst 1, 1) by decide +kernel) rfl rfl rfl ?_
  refine e_P (st' := [aI (v4 + 1), aR q_S, aR 188, aI u0]) (show decode (mC 268) 1031 = .ok (.iadd, 1) by decide +kernel) rfl rfl rfl ?_
  refine e_sld (show decode (mC 268) 1032 = .ok (.iaload, 1) by decide +kernel) s0 s1 ?_
  exact e_V (as := [aR 188, aI (scr G (v4 + 1))]) (rest := [aI u0]) (show decode (mC 268) 1033 = .ok (.invokevirtual 139, 3) by decide +kernel) (by decide +kernel) (show (decide ((2 : Nat) = mA 240) && decide (240 < q_law)) = true by decide +kernel) rfl (show (1 : Nat) ≤ 8 by decide) (show (2 : Nat) ≤ mL 240 by decide +kernel) rfl (sh_ok hG (by decide +kernel)) m2
theorem b268_1036 (hG : Shp G) {v4 u0 u1 : Int}
    (s0 : -2147483648 ≤ u0 ∧ u0 < 2147483648)
    (s1 : -2147483648 ≤ u1 ∧ u1 < 2147483648)
    (k2 : (u0 = u1) → T (d + 2) 268 1328 [some (aR q_S), some (aR 1), some (aR 188), some (aR 211), some (aI v4), none, none] [] (G, c) Q)
    (z3 : (¬ u0 = u1) → Q (.inl (some (aI 0))) (G, c)) :
    T (d + 2) 268 1036 [some (aR q_S), some (aR 1), some (aR 188), some (aR 211), some (aI v4), none, none] [aI u1, aI u0] (G, c) Q := by
  refine e_eq2 (t := 1328) (show decode (mC 268) 1036 = .ok (.if_icmp .eq 292, 3) by decide +kernel) (by decide) s0 s1 (fun p1 => ?_) (fun p1 => ?_)
  · exact (k2 p1)
  · refine e_P (st' := [aI 0]) (show decode (mC 268) 1039 = .ok (.iconst 0, 1) by decide +kernel) rfl rfl rfl ?_
    exact e_zret (show decode (mC 268) 1040 = .ok (.ireturn, 1) by decide +kernel) rfl (by decide) (z3 p1)
theorem b268_1041 (hG : Shp G) {v4 : Int}
    (s0 : 0 ≤ (v4 + 1))
    (s1 : (v4 + 1) < (G.2.2.2.2.1 : Int))
    (m2 : TM (d + 1) 146 [aR 1, aI (scr G (v4 + 1))] (G, c) (fun r h' => T (d + 2) 268 1051 [some (aR q_S), some (aR 1), some (aR 188), some (aR 211), some (aI v4), none, none] (r.toList ++ []) h' Q)) :
    T (d + 2) 268 1041 [some (aR q_S), some (aR 1), some (aR 188), some (aR 211), some (aI v4), none, none] [] (G, c) Q := by
  refine e_L (L' := [some (aR q_S), some (aR 1), some (aR 188), some (aR 211), some (aI v4), none, none]) (st' := [aR 1]) (show decode (mC 268) 1041 = .ok (.aload_n 1, 1) by decide +kernel) rfl (by show (if 1 = 0 then none else some (_, _)) = _; rw [if_neg (by decide)]) ?_
  refine e_L (L' := [some (aR q_S), some (aR 1), some (aR 188), some (aR 211), some (aI v4), none, none]) (st' := [aR q_S, aR 1]) (show decode (mC 268) 1042 = .ok (.aload_n 0, 1) by decide +kernel) rfl (by show (if q_S = 0 then none else some (_, _)) = _; rw [if_neg (by decide)]) ?_
  refine e_L (L' := [some (aR q_S), some (aR 1), some (aR 188), some (aR 211), some (aI v4), none, none]) (st' := [aI v4, aR q_S, aR 1]) (show decode (mC 268) 1043 = .ok (.iload 4, 2) by decide +kernel) rfl rfl ?_
  refine e_P (st' := [aI 1, aI v4, aR q_S, aR 1]) (show decode (mC 268) 1045 = .ok (.iconst 1, 1) by decide +kernel) rfl rfl rfl ?_
  refine e_P (st' := [aI (v4 + 1), aR q_S, aR 1]) (show decode (mC 268) 1046 = .ok (.iadd, 1) by decide +kernel) rfl rfl rfl ?_
  refine e_sld (show decode (mC 268) 1047 = .ok (.iaload, 1) by decide +kernel) s0 s1 ?_
  exact e_V (as := [aR 1, aI (scr G (v4 + 1))]) (rest := []) (show decode (mC 268) 1048 = .ok (.invokevirtual 140, 3) by decide +kernel) (by decide +kernel) (show (decide ((2 : Nat) = mA 146) && decide (146 < q_law)) = true by decide +kernel) rfl (show (0 : Nat) ≤ 8 by decide) (show (2 : Nat) ≤ mL 146 by decide +kernel) rfl (sh_ok hG (by decide +kernel)) m2
theorem b268_1051 (hG : Shp G) {v4 u0 : Int}
    (s0 : 0 ≤ (v4 + 1))
    (s1 : (v4 + 1) < (G.2.2.2.2.1 : Int))
    (m2 : TM (d + 1) 241 [aR 188, aI (scr G (v4 + 1))] (G, c) (fun r h' => T (d + 2) 268 1061 [some (aR q_S), some (aR 1), some (aR 188), some (aR 211), some (aI v4), none, none] (r.toList ++ [aI u0]) h' Q)) :
    T (d + 2) 268 1051 [some (aR q_S), some (aR 1), some (aR 188), some (aR 211), some (aI v4), none, none] [aI u0] (G, c) Q := by
  refine e_L (L' := [some (aR q_S), some (aR 1), some (aR 188), some (aR 211), some (aI v4), none, none]) (st' := [aR 188, aI u0]) (show decode (mC 268) 1051 = .ok (.aload_n 2, 1) by decide +kernel) rfl (by show (if 188 = 0 then none else some (_, _)) = _; rw [if_neg (by decide)]) ?_
  refine e_L (L' := [some (aR q_S), some (aR 1), some (aR 188), some (aR 211), some (aI v4), none, none]) (st' := [aR q_S, aR 188, aI u0]) (show decode (mC 268) 1052 = .ok (.aload_n 0, 1) by decide +kernel) rfl (by show (if q_S = 0 then none else some (_, _)) = _; rw [if_neg (by decide)]) ?_
  refine e_L (L' := [some (aR q_S), some (aR 1), some (aR 188), some (aR 211), some (aI v4), none, none]) (st' := [aI v4, aR q_S, aR 188, aI u0]) (show decode (mC 268) 1053 = .ok (.iload 4, 2) by decide +kernel) rfl rfl ?_
  refine e_P (st' := [aI 1, aI v4, aR q_S, aR 188, aI u0]) (show decode (mC 268) 1055 = .ok (.iconst 1, 1) by decide +kernel) rfl rfl rfl ?_
  refine e_P (st' := [aI (v4 + 1), aR q_S, aR 188, aI u0]) (show decode (mC 268) 1056 = .ok (.iadd, 1) by decide +kernel) rfl rfl rfl ?_
  refine e_sld (show decode (mC 268) 1057 = .ok (.iaload, 1) by decide +kernel) s0 s1 ?_
  exact e_V (as := [aR 188, aI (scr G (v4 + 1))]) (rest := [aI u0]) (show decode (mC 268) 1058 = .ok (.invokevirtual 143, 3) by decide +kernel) (by decide +kernel) (show (decide ((2 : Nat) = mA 241) && decide (241 < q_law)) = true by decide +kernel) rfl (show (1 : Nat) ≤ 8 by decide) (show (2 : Nat) ≤ mL 241 by decide +kernel) rfl (sh_ok hG (by decide +kernel)) m2
theorem b268_1061 (hG : Shp G) {v4 u0 u1 : Int}
    (s0 : -2147483648 ≤ u0 ∧ u0 < 2147483648)
    (s1 : -2147483648 ≤ u1 ∧ u1 < 2147483648)
    (k2 : (u0 = u1) → T (d + 2) 268 1328 [some (aR q_S), some (aR 1), some (aR 188), some (aR 211), some (aI v4), none, none] [] (G, c) Q)
    (z3 : (¬ u0 = u1) → Q (.inl (some (aI 0))) (G, c)) :
    T (d + 2) 268 1061 [some (aR q_S), some (aR 1), some (aR 188), some (aR 211), some (aI v4), none, none] [aI u1, aI u0] (G, c) Q := by
  refine e_eq2 (t := 1328) (show decode (mC 268) 1061 = .ok (.if_icmp .eq 267, 3) by decide +kernel) (by decide) s0 s1 (fun p1 => ?_) (fun p1 => ?_)
  · exact (k2 p1)
  · refine e_P (st' := [aI 0]) (show decode (mC 268) 1064 = .ok (.iconst 0, 1) by decide +kernel) rfl rfl rfl ?_
    exact e_zret (show decode (mC 268) 1065 = .ok (.ireturn, 1) by decide +kernel) rfl (by decide) (z3 p1)
theorem b268_1066 (hG : Shp G) {v4 : Int}
    (s0 : 0 ≤ (v4 + 1))
    (s1 : (v4 + 1) < (G.2.2.2.2.1 : Int))
    (s2 : 0 ≤ (v4 + 2))
    (s3 : (v4 + 2) < (G.2.2.2.2.1 : Int))
    (m4 : TM (d + 1) 130 [aR 1, aI (scr G (v4 + 1)), aI (scr G (v4 + 2))] (G, c) (fun r h' => T (d + 2) 268 1082 [some (aR q_S), some (aR 1), some (aR 188), some (aR 211), some (aI v4), none, none] (r.toList ++ []) h' Q)) :
    T (d + 2) 268 1066 [some (aR q_S), some (aR 1), some (aR 188), some (aR 211), some (aI v4), none, none] [] (G, c) Q := by
  refine e_L (L' := [some (aR q_S), some (aR 1), some (aR 188), some (aR 211), some (aI v4), none, none]) (st' := [aR 1]) (show decode (mC 268) 1066 = .ok (.aload_n 1, 1) by decide +kernel) rfl (by show (if 1 = 0 then none else some (_, _)) = _; rw [if_neg (by decide)]) ?_
  refine e_L (L' := [some (aR q_S), some (aR 1), some (aR 188), some (aR 211), some (aI v4), none, none]) (st' := [aR q_S, aR 1]) (show decode (mC 268) 1067 = .ok (.aload_n 0, 1) by decide +kernel) rfl (by show (if q_S = 0 then none else some (_, _)) = _; rw [if_neg (by decide)]) ?_
  refine e_L (L' := [some (aR q_S), some (aR 1), some (aR 188), some (aR 211), some (aI v4), none, none]) (st' := [aI v4, aR q_S, aR 1]) (show decode (mC 268) 1068 = .ok (.iload 4, 2) by decide +kernel) rfl rfl ?_
  refine e_P (st' := [aI 1, aI v4, aR q_S, aR 1]) (show decode (mC 268) 1070 = .ok (.iconst 1, 1) by decide +kernel) rfl rfl rfl ?_
  refine e_P (st' := [aI (v4 + 1), aR q_S, aR 1]) (show decode (mC 268) 1071 = .ok (.iadd, 1) by decide +kernel) rfl rfl rfl ?_
  refine e_sld (show decode (mC 268) 1072 = .ok (.iaload, 1) by decide +kernel) s0 s1 ?_
  refine e_L (L' := [some (aR q_S), some (aR 1), some (aR 188), some (aR 211), some (aI v4), none, none]) (st' := [aR q_S, aI (scr G (v4 + 1)), aR 1]) (show decode (mC 268) 1073 = .ok (.aload_n 0, 1) by decide +kernel) rfl (by show (if q_S = 0 then none else some (_, _)) = _; rw [if_neg (by decide)]) ?_
  refine e_L (L' := [some (aR q_S), some (aR 1), some (aR 188), some (aR 211), some (aI v4), none, none]) (st' := [aI v4, aR q_S, aI (scr G (v4 + 1)), aR 1]) (show decode (mC 268) 1074 = .ok (.iload 4, 2) by decide +kernel) rfl rfl ?_
  refine e_P (st' := [aI 2, aI v4, aR q_S, aI (scr G (v4 + 1)), aR 1]) (show decode (mC 268) 1076 = .ok (.iconst 2, 1) by decide +kernel) rfl rfl rfl ?_
  refine e_P (st' := [aI (v4 + 2), aR q_S, aI (scr G (v4 + 1)), aR 1]) (show decode (mC 268) 1077 = .ok (.iadd, 1) by decide +kernel) rfl rfl rfl ?_
  refine e_sld (show decode (mC 268) 1078 = .ok (.iaload, 1) by decide +kernel) s2 s3 ?_
  exact e_V (as := [aR 1, aI (scr G (v4 + 1)), aI (scr G (v4 + 2))]) (rest := []) (show decode (mC 268) 1079 = .ok (.invokevirtual 144, 3) by decide +kernel) (by decide +kernel) (show (decide ((3 : Nat) = mA 130) && decide (130 < q_law)) = true by decide +kernel) rfl (show (0 : Nat) ≤ 8 by decide) (show (3 : Nat) ≤ mL 130 by decide +kernel) rfl (sh_ok hG (by decide +kernel)) m4
theorem b268_1082 (hG : Shp G) {v4 u0 : Int}
    (s0 : 0 ≤ (v4 + 1))
    (s1 : (v4 + 1) < (G.2.2.2.2.1 : Int))
    (s2 : 0 ≤ (v4 + 2))
    (s3 : (v4 + 2) < (G.2.2.2.2.1 : Int))
    (m4 : TM (d + 1) 244 [aR 188, aI (scr G (v4 + 1)), aI (scr G (v4 + 2))] (G, c) (fun r h' => T (d + 2) 268 1098 [some (aR q_S), some (aR 1), some (aR 188), some (aR 211), some (aI v4), none, none] (r.toList ++ [aI u0]) h' Q)) :
    T (d + 2) 268 1082 [some (aR q_S), some (aR 1), some (aR 188), some (aR 211), some (aI v4), none, none] [aI u0] (G, c) Q := by
  refine e_L (L' := [some (aR q_S), some (aR 1), some (aR 188), some (aR 211), some (aI v4), none, none]) (st' := [aR 188, aI u0]) (show decode (mC 268) 1082 = .ok (.aload_n 2, 1) by decide +kernel) rfl (by show (if 188 = 0 then none else some (_, _)) = _; rw [if_neg (by decide)]) ?_
  refine e_L (L' := [some (aR q_S), some (aR 1), some (aR 188), some (aR 211), some (aI v4), none, none]) (st' := [aR q_S, aR 188, aI u0]) (show decode (mC 268) 1083 = .ok (.aload_n 0, 1) by decide +kernel) rfl (by show (if q_S = 0 then none else some (_, _)) = _; rw [if_neg (by decide)]) ?_
  refine e_L (L' := [some (aR q_S), some (aR 1), some (aR 188), some (aR 211), some (aI v4), none, none]) (st' := [aI v4, aR q_S, aR 188, aI u0]) (show decode (mC 268) 1084 = .ok (.iload 4, 2) by decide +kernel) rfl rfl ?_
  refine e_P (st' := [aI 1, aI v4, aR q_S, aR 188, aI u0]) (show decode (mC 268) 1086 = .ok (.iconst 1, 1) by decide +kernel) rfl rfl rfl ?_
  refine e_P (st' := [aI (v4 + 1), aR q_S, aR 188, aI u0]) (show decode (mC 268) 1087 = .ok (.iadd, 1) by decide +kernel) rfl rfl rfl ?_
  refine e_sld (show decode (mC 268) 1088 = .ok (.iaload, 1) by decide +kernel) s0 s1 ?_
  refine e_L (L' := [some (aR q_S), some (aR 1), some (aR 188), some (aR 211), some (aI v4), none, none]) (st' := [aR q_S, aI (scr G (v4 + 1)), aR 188, aI u0]) (show decode (mC 268) 1089 = .ok (.aload_n 0, 1) by decide +kernel) rfl (by show (if q_S = 0 then none else some (_, _)) = _; rw [if_neg (by decide)]) ?_
  refine e_L (L' := [some (aR q_S), some (aR 1), some (aR 188), some (aR 211), some (aI v4), none, none]) (st' := [aI v4, aR q_S, aI (scr G (v4 + 1)), aR 188, aI u0]) (show decode (mC 268) 1090 = .ok (.iload 4, 2) by decide +kernel) rfl rfl ?_
  refine e_P (st' := [aI 2, aI v4, aR q_S, aI (scr G (v4 + 1)), aR 188, aI u0]) (show decode (mC 268) 1092 = .ok (.iconst 2, 1) by decide +kernel) rfl rfl rfl ?_
  refine e_P (st' := [aI (v4 + 2), aR q_S, aI (scr G (v4 + 1)), aR 188, aI u0]) (show decode (mC 268) 1093 = .ok (.iadd, 1) by decide +kernel) rfl rfl rfl ?_
  refine e_sld (show decode (mC 268) 1094 = .ok (.iaload, 1) by decide +kernel) s2 s3 ?_
  exact e_V (as := [aR 188, aI (scr G (v4 + 1)), aI (scr G (v4 + 2))]) (rest := [aI u0]) (show decode (mC 268) 1095 = .ok (.invokevirtual 147, 3) by decide +kernel) (by decide +kernel) (show (decide ((3 : Nat) = mA 244) && decide (244 < q_law)) = true by decide +kernel) rfl (show (1 : Nat) ≤ 8 by decide) (show (3 : Nat) ≤ mL 244 by decide +kernel) rfl (sh_ok hG (by decide +kernel)) m4
theorem b268_1098 (hG : Shp G) {v4 u0 u1 : Int}
    (s0 : -2147483648 ≤ u0 ∧ u0 < 2147483648)
    (s1 : -2147483648 ≤ u1 ∧ u1 < 2147483648)
    (k2 : (u0 = u1) → T (d + 2) 268 1328 [some (aR q_S), some (aR 1), some (aR 188), some (aR 211), some (aI v4), none, none] [] (G, c) Q)
    (z3 : (¬ u0 = u1) → Q (.inl (some (aI 0))) (G, c)) :
    T (d + 2) 268 1098 [some (aR q_S), some (aR 1), some (aR 188), some (aR 211), some (aI v4), none, none] [aI u1, aI u0] (G, c) Q := by
  refine e_eq2 (t := 1328) (show decode (mC 268) 1098 = .ok (.if_icmp .eq 230, 3) by decide +kernel) (by decide) s0 s1 (fun p1 => ?_) (fun p1 => ?_)
  · exact (k2 p1)
  · refine e_P (st' := [aI 0]) (show decode (mC 268) 1101 = .ok (.iconst 0, 1) by decide +kernel) rfl rfl rfl ?_
    exact e_zret (show decode (mC 268) 1102 = .ok (.ireturn, 1) by decide +kernel) rfl (by decide) (z3 p1)
end SPl3
