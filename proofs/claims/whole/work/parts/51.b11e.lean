section QB21
variable {d : Nat} {G : GG} {c : CC} {Q : OO → HH → Prop}
/-- SoulOffice.withLetter(JI)J, from 0 -/
theorem b156_0 (hG : Shp G) {v0 v2 : Int}
    (s0 : -2147483648 ≤ ((v2 - 97) + 1) ∧ ((v2 - 97) + 1) < 2147483648)
    (z1 : Q (.inl (some (aL ((v0 * 32) + ((v2 - 97) + 1))))) (G, c)) :
    T d 156 0 [some (aL v0), none, some (aI v2)] [] (G, c) Q := by
  refine e_L (L' := [some (aL v0), none, some (aI v2)]) (st' := [aL v0]) (show decode (mC 156) 0 = .ok (.lload_n 0, 1) by decide +kernel) rfl rfl ?_
  refine e_ldc2 (show decode (mC 156) 1 = .ok (.ldc2_w 360, 3) by decide +kernel) (show pl 11 360 = some (9, 0, 0, 32) by decide +kernel) ?_
  refine e_P (st' := [aL (v0 * 32)]) (show decode (mC 156) 4 = .ok (.lmul, 1) by decide +kernel) rfl rfl rfl ?_
  refine e_L (L' := [some (aL v0), none, some (aI v2)]) (st' := [aI v2, aL (v0 * 32)]) (show decode (mC 156) 5 = .ok (.iload_n 2, 1) by decide +kernel) rfl rfl ?_
  refine e_P (st' := [aI 97, aI v2, aL (v0 * 32)]) (show decode (mC 156) 6 = .ok (.bipush 97, 2) by decide +kernel) rfl rfl rfl ?_
  refine e_P (st' := [aI (v2 - 97), aL (v0 * 32)]) (show decode (mC 156) 8 = .ok (.isub, 1) by decide +kernel) rfl rfl rfl ?_
  refine e_P (st' := [aI 1, aI (v2 - 97), aL (v0 * 32)]) (show decode (mC 156) 9 = .ok (.iconst 1, 1) by decide +kernel) rfl rfl rfl ?_
  refine e_P (st' := [aI ((v2 - 97) + 1), aL (v0 * 32)]) (show decode (mC 156) 10 = .ok (.iadd, 1) by decide +kernel) rfl rfl rfl ?_
  refine e_i2l (show decode (mC 156) 11 = .ok (.i2l, 1) by decide +kernel) s0 ?_
  refine e_P (st' := [aL ((v0 * 32) + ((v2 - 97) + 1))]) (show decode (mC 156) 12 = .ok (.ladd, 1) by decide +kernel) rfl rfl rfl ?_
  exact e_lret (show decode (mC 156) 13 = .ok (.lreturn, 1) by decide +kernel) rfl z1
end QB21
