section SPbc
variable {d : Nat} {G : GG} {c : CC} {Q : Option AV → HH → Prop} {v : Int}
def pc1 (v : Int) : Int := (v - (q_and (q_ush v 1) 1431655765))
def pc2 (v : Int) : Int := ((q_and (pc1 v) 858993459) + (q_and (q_ush (pc1 v) 2) 858993459))
def pc3 (v : Int) : Int := (q_and ((pc2 v) + (q_ush (pc2 v) 4)) 252645135)
def pc4 (v : Int) : Int := ((pc3 v) + (q_ush (pc3 v) 8))
def pc5 (v : Int) : Int := ((pc4 v) + (q_ush (pc4 v) 16))
theorem pc_all : ∀ v : Fin 256, q_and (pc5 v.val) 63 = sumI (bt v.val) 8 := by decide +kernel
theorem c_bitCount (hG : Shp G) (hv : 0 ≤ v ∧ v < 256) (hz : Q (some (aI (sumI (bt v) 8))) (G, c)) : TM d 267 [aI v] (G, c) Q := by
  have hp := pc_all ⟨v.toNat, by omega⟩
  rw [show ((⟨v.toNat, by omega⟩ : Fin 256).val : Int) = v by show (v.toNat : Int) = v; omega] at hp
  suffices k : T d 267 0 [some (aI v)] [] (G, c) (QM Q) from k
  refine e_L (L' := [some (aI v)]) (st' := [aI v]) (show decode (mC 267) 0 = .ok (.iload_n 0, 1) by decide +kernel) rfl rfl ?_
  refine e_L (L' := [some (aI v)]) (st' := [aI v, aI v]) (show decode (mC 267) 1 = .ok (.iload_n 0, 1) by decide +kernel) rfl rfl ?_
  refine e_P (st' := [aI 1, aI v, aI v]) (show decode (mC 267) 2 = .ok (.iconst 1, 1) by decide +kernel) rfl rfl rfl ?_
  refine e_P (st' := [aI (q_ush v 1), aI v]) (show decode (mC 267) 3 = .ok (.iushr, 1) by decide +kernel) rfl rfl rfl ?_
  refine e_ldcw (show decode (mC 267) 4 = .ok (.ldc_w 265, 3) by decide +kernel) (show pl 14 265 = some (8, 0, 0, 1431655765) by decide +kernel) ?_
  refine e_P (st' := [aI (q_and (q_ush v 1) 1431655765), aI v]) (show decode (mC 267) 7 = .ok (.iand, 1) by decide +kernel) rfl rfl rfl ?_
  refine e_P (st' := [aI (v - (q_and (q_ush v 1) 1431655765))]) (show decode (mC 267) 8 = .ok (.isub, 1) by decide +kernel) rfl rfl rfl ?_
  refine e_L (L' := [some (aI (v - (q_and (q_ush v 1) 1431655765)))]) (st' := []) (show decode (mC 267) 9 = .ok (.istore_n 0, 1) by decide +kernel) rfl rfl ?_
  obtain ⟨w1, hw1⟩ : ∃ w, w = (v - (q_and (q_ush v 1) 1431655765)) := ⟨_, rfl⟩
  rw [← hw1]
  refine e_L (L' := [some (aI w1)]) (st' := [aI w1]) (show decode (mC 267) 10 = .ok (.iload_n 0, 1) by decide +kernel) rfl rfl ?_
  refine e_ldcw (show decode (mC 267) 11 = .ok (.ldc_w 266, 3) by decide +kernel) (show pl 14 266 = some (8, 0, 0, 858993459) by decide +kernel) ?_
  refine e_P (st' := [aI (q_and w1 858993459)]) (show decode (mC 267) 14 = .ok (.iand, 1) by decide +kernel) rfl rfl rfl ?_
  refine e_L (L' := [some (aI w1)]) (st' := [aI w1, aI (q_and w1 858993459)]) (show decode (mC 267) 15 = .ok (.iload_n 0, 1) by decide +kernel) rfl rfl ?_
  refine e_P (st' := [aI 2, aI w1, aI (q_and w1 858993459)]) (show decode (mC 267) 16 = .ok (.iconst 2, 1) by decide +kernel) rfl rfl rfl ?_
  refine e_P (st' := [aI (q_ush w1 2), aI (q_and w1 858993459)]) (show decode (mC 267) 17 = .ok (.iushr, 1) by decide +kernel) rfl rfl rfl ?_
  refine e_ldcw (show decode (mC 267) 18 = .ok (.ldc_w 266, 3) by decide +kernel) (show pl 14 266 = some (8, 0, 0, 858993459) by decide +kernel) ?_
  refine e_P (st' := [aI (q_and (q_ush w1 2) 858993459), aI (q_and w1 858993459)]) (show decode (mC 267) 21 = .ok (.iand, 1) by decide +kernel) rfl rfl rfl ?_
  refine e_P (st' := [aI ((q_and w1 858993459) + (q_and (q_ush w1 2) 858993459))]) (show decode (mC 267) 22 = .ok (.iadd, 1) by decide +kernel) rfl rfl rfl ?_
  refine e_L (L' := [some (aI ((q_and w1 858993459) + (q_and (q_ush w1 2) 858993459)))]) (st' := []) (show decode (mC 267) 23 = .ok (.istore_n 0, 1) by decide +kernel) rfl rfl ?_
  obtain ⟨w2, hw2⟩ : ∃ w, w = ((q_and w1 858993459) + (q_and (q_ush w1 2) 858993459)) := ⟨_, rfl⟩
  rw [← hw2]
  refine e_L (L' := [some (aI w2)]) (st' := [aI w2]) (show decode (mC 267) 24 = .ok (.iload_n 0, 1) by decide +kernel) rfl rfl ?_
  refine e_L (L' := [some (aI w2)]) (st' := [aI w2, aI w2]) (show decode (mC 267) 25 = .ok (.iload_n 0, 1) by decide +kernel) rfl rfl ?_
  refine e_P (st' := [aI 4, aI w2, aI w2]) (show decode (mC 267) 26 = .ok (.iconst 4, 1) by decide +kernel) rfl rfl rfl ?_
  refine e_P (st' := [aI (q_ush w2 4), aI w2]) (show decode (mC 267) 27 = .ok (.iushr, 1) by decide +kernel) rfl rfl rfl ?_
  refine e_P (st' := [aI (w2 + (q_ush w2 4))]) (show decode (mC 267) 28 = .ok (.iadd, 1) by decide +kernel) rfl rfl rfl ?_
  refine e_ldcw (show decode (mC 267) 29 = .ok (.ldc_w 267, 3) by decide +kernel) (show pl 14 267 = some (8, 0, 0, 252645135) by decide +kernel) ?_
  refine e_P (st' := [aI (q_and (w2 + (q_ush w2 4)) 252645135)]) (show decode (mC 267) 32 = .ok (.iand, 1) by decide +kernel) rfl rfl rfl ?_
  refine e_L (L' := [some (aI (q_and (w2 + (q_ush w2 4)) 252645135))]) (st' := []) (show decode (mC 267) 33 = .ok (.istore_n 0, 1) by decide +kernel) rfl rfl ?_
  obtain ⟨w3, hw3⟩ : ∃ w, w = (q_and (w2 + (q_ush w2 4)) 252645135) := ⟨_, rfl⟩
  rw [← hw3]
  refine e_L (L' := [some (aI w3)]) (st' := [aI w3]) (show decode (mC 267) 34 = .ok (.iload_n 0, 1) by decide +kernel) rfl rfl ?_
  refine e_L (L' := [some (aI w3)]) (st' := [aI w3, aI w3]) (show decode (mC 267) 35 = .ok (.iload_n 0, 1) by decide +kernel) rfl rfl ?_
  refine e_P (st' := [aI 8, aI w3, aI w3]) (show decode (mC 267) 36 = .ok (.bipush 8, 2) by decide +kernel) rfl rfl rfl ?_
  refine e_P (st' := [aI (q_ush w3 8), aI w3]) (show decode (mC 267) 38 = .ok (.iushr, 1) by decide +kernel) rfl rfl rfl ?_
  refine e_P (st' := [aI (w3 + (q_ush w3 8))]) (show decode (mC 267) 39 = .ok (.iadd, 1) by decide +kernel) rfl rfl rfl ?_
  refine e_L (L' := [some (aI (w3 + (q_ush w3 8)))]) (st' := []) (show decode (mC 267) 40 = .ok (.istore_n 0, 1) by decide +kernel) rfl rfl ?_
  obtain ⟨w4, hw4⟩ : ∃ w, w = (w3 + (q_ush w3 8)) := ⟨_, rfl⟩
  rw [← hw4]
  refine e_L (L' := [some (aI w4)]) (st' := [aI w4]) (show decode (mC 267) 41 = .ok (.iload_n 0, 1) by decide +kernel) rfl rfl ?_
  refine e_L (L' := [some (aI w4)]) (st' := [aI w4, aI w4]) (show decode (mC 267) 42 = .ok (.iload_n 0, 1) by decide +kernel) rfl rfl ?_
  refine e_P (st' := [aI 16, aI w4, aI w4]) (show decode (mC 267) 43 = .ok (.bipush 16, 2) by decide +kernel) rfl rfl rfl ?_
  refine e_P (st' := [aI (q_ush w4 16), aI w4]) (show decode (mC 267) 45 = .ok (.iushr, 1) by decide +kernel) rfl rfl rfl ?_
  refine e_P (st' := [aI (w4 + (q_ush w4 16))]) (show decode (mC 267) 46 = .ok (.iadd, 1) by decide +kernel) rfl rfl rfl ?_
  refine e_L (L' := [some (aI (w4 + (q_ush w4 16)))]) (st' := []) (show decode (mC 267) 47 = .ok (.istore_n 0, 1) by decide +kernel) rfl rfl ?_
  obtain ⟨w5, hw5⟩ : ∃ w, w = (w4 + (q_ush w4 16)) := ⟨_, rfl⟩
  rw [← hw5]
  refine e_L (L' := [some (aI w5)]) (st' := [aI w5]) (show decode (mC 267) 48 = .ok (.iload_n 0, 1) by decide +kernel) rfl rfl ?_
  refine e_P (st' := [aI 63, aI w5]) (show decode (mC 267) 49 = .ok (.bipush 63, 2) by decide +kernel) rfl rfl rfl ?_
  refine e_P (st' := [aI (q_and w5 63)]) (show decode (mC 267) 51 = .ok (.iand, 1) by decide +kernel) rfl rfl rfl ?_
  refine e_iret (show decode (mC 267) 52 = .ok (.ireturn, 1) by decide +kernel) rfl ?_
  have e5 : w5 = pc5 v := by rw [hw5, hw4, hw3, hw2, hw1]; rfl
  rw [e5, hp]
  exact hz
end SPbc
