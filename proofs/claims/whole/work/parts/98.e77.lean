section SPar0
variable {d : Nat} {G : GG} {c : CC} {v4 : Int} {Q : Option AV → HH → Prop}
theorem in0 : ∀ a ∈ ([] : List AV), ∃ v : Int, a = aI v := fun a h => by cases h
theorem in1 {x : Int} : ∀ a ∈ ([aI x] : List AV), ∃ v : Int, a = aI v := fun a h => ⟨x, List.mem_singleton.mp h⟩
theorem in2 {x y : Int} : ∀ a ∈ ([aI x, aI y] : List AV), ∃ v : Int, a = aI v := fun a h => by
  rcases List.mem_cons.mp h with e | e
  · exact ⟨x, e⟩
  · exact in1 a e
theorem in3 {x y z : Int} : ∀ a ∈ ([aI x, aI y, aI z] : List AV), ∃ v : Int, a = aI v := fun a h => by
  rcases List.mem_cons.mp h with e | e
  · exact ⟨x, e⟩
  · exact in2 a e
theorem in5 {x y z u w : Int} : ∀ a ∈ ([aI x, aI y, aI z, aI u, aI w] : List AV), ∃ v : Int, a = aI v := fun a h => by
  rcases List.mem_cons.mp h with e | e
  · exact ⟨x, e⟩
  · rcases List.mem_cons.mp e with e | e
    · exact ⟨y, e⟩
    · exact in3 a e
theorem arm_0 (hG : Shp G) (hc : GR c c) (h0 : 0 ≤ v4) (h6 : v4 + 6 ≤ (G.2.2.2.2.1 : Int)) (hk : ∀ c2, GR c2 c2 → c2 0 0 ≤ c 0 0 + 1 → T (d + 52) 271 1328 [some (aR q_S), some (aR 1), some (aR 188), some (aR 211), some (aI v4), none, none] [] (G, c2) (QM Q)) : T (d + 52) 271 208 [some (aR q_S), some (aR 1), some (aR 188), some (aR 211), some (aI v4), none, none] [] (G, c) (QM Q) := by
  refine b271_208 hG (by intros; omega) (by intros; omega) (by intros; omega) (by intros; omega) (by intros; omega) (by intros; omega) (by intros; omega) (by intros; omega) (by intros; omega) (by intros; omega) ?_
  refine TM_Qm (fun r1 y1 x => ?_) (OP_j0 hG (op_feed (d := d + 1) hG hc) rfl (in5) (by decide +kernel) (by decide +kernel))
  obtain ⟨c1, v, e1, e2, e3, x2⟩ := x
  subst e1; subst e2
  refine b271_242 hG (by intros; omega) (by intros; omega) (by intros; omega) (by intros; omega) (by intros; omega) (by intros; omega) (by intros; omega) (by intros; omega) (by intros; omega) (by intros; omega) ?_
  refine TM_Qm (fun r2 y2 y => ?_) x2
  obtain ⟨c2, e4, e5, g2, g3⟩ := y
  subst e4; subst e5
  refine b271_276 hG (by intros; omega) (by intros; omega) ?_ ?_
  · intro p; exact hk c2 g2 (by omega)
  · intro p; exact absurd rfl p
theorem arm_1 (hG : Shp G) (hc : GR c c) (h0 : 0 ≤ v4) (h6 : v4 + 6 ≤ (G.2.2.2.2.1 : Int)) (hk : ∀ c2, GR c2 c2 → c2 0 0 ≤ c 0 0 + 1 → T (d + 52) 271 1328 [some (aR q_S), some (aR 1), some (aR 188), some (aR 211), some (aI v4), none, none] [] (G, c2) (QM Q)) : T (d + 52) 271 281 [some (aR q_S), some (aR 1), some (aR 188), some (aR 211), some (aI v4), none, none] [] (G, c) (QM Q) := by
  refine b271_281 hG (by intros; omega) (by intros; omega) ?_
  refine TM_Qm (fun r1 y1 x => ?_) (OP_j0 hG (op_end (d := d + 1) hG hc scr_b) rfl (in1) (by decide +kernel) (by decide +kernel))
  obtain ⟨c1, v, e1, e2, e3, x2⟩ := x
  subst e1; subst e2
  refine b271_291 hG (by intros; omega) (by intros; omega) ?_
  refine TM_Qm (fun r2 y2 y => ?_) x2
  obtain ⟨c2, e4, e5, g2, g3⟩ := y
  subst e4; subst e5
  refine b271_301 hG (by intros; omega) (by intros; omega) ?_ ?_
  · intro p; exact hk c2 g2 (by omega)
  · intro p; exact absurd rfl p
theorem arm_2 (hG : Shp G) (hc : GR c c) (h0 : 0 ≤ v4) (h6 : v4 + 6 ≤ (G.2.2.2.2.1 : Int)) (hk : ∀ c2, GR c2 c2 → c2 0 0 ≤ c 0 0 + 1 → T (d + 52) 271 1328 [some (aR q_S), some (aR 1), some (aR 188), some (aR 211), some (aI v4), none, none] [] (G, c2) (QM Q)) : T (d + 52) 271 306 [some (aR q_S), some (aR 1), some (aR 188), some (aR 211), some (aI v4), none, none] [] (G, c) (QM Q) := by
  refine b271_306 hG ?_
  refine TM_Qm (fun r1 y1 x => ?_) (OP_j0 hG (op_office (d := d + 1) hG hc) rfl (in0) (by decide +kernel) (by decide +kernel))
  obtain ⟨c1, v, e1, e2, e3, x2⟩ := x
  subst e1; subst e2
  refine b271_310 hG ?_
  refine TM_Qm (fun r2 y2 y => ?_) x2
  obtain ⟨c2, e4, e5, g2, g3⟩ := y
  subst e4; subst e5
  refine b271_314 hG (by intros; omega) (by intros; omega) ?_ ?_
  · intro p; exact hk c2 g2 (by omega)
  · intro p; exact absurd rfl p
theorem arm_3 (hG : Shp G) (hc : GR c c) (h0 : 0 ≤ v4) (h6 : v4 + 6 ≤ (G.2.2.2.2.1 : Int)) (hk : ∀ c2, GR c2 c2 → c2 0 0 ≤ c 0 0 + 1 → T (d + 52) 271 1328 [some (aR q_S), some (aR 1), some (aR 188), some (aR 211), some (aI v4), none, none] [] (G, c2) (QM Q)) : T (d + 52) 271 319 [some (aR q_S), some (aR 1), some (aR 188), some (aR 211), some (aI v4), none, none] [] (G, c) (QM Q) := by
  refine b271_319 hG ?_
  refine TM_Qm (fun r1 y1 x => ?_) (OP_j0 hG (op_fault (d := d + 1) hG hc) rfl (in0) (by decide +kernel) (by decide +kernel))
  obtain ⟨c1, v, e1, e2, e3, x2⟩ := x
  subst e1; subst e2
  refine b271_323 hG ?_
  refine TM_Qm (fun r2 y2 y => ?_) x2
  obtain ⟨c2, e4, e5, g2, g3⟩ := y
  subst e4; subst e5
  refine b271_327 hG (by intros; omega) (by intros; omega) ?_ ?_
  · intro p; exact hk c2 g2 (by omega)
  · intro p; exact absurd rfl p
theorem arm_4 (hG : Shp G) (hc : GR c c) (h0 : 0 ≤ v4) (h6 : v4 + 6 ≤ (G.2.2.2.2.1 : Int)) (hk : ∀ c2, GR c2 c2 → c2 0 0 ≤ c 0 0 + 1 → T (d + 52) 271 1328 [some (aR q_S), some (aR 1), some (aR 188), some (aR 211), some (aI v4), none, none] [] (G, c2) (QM Q)) : T (d + 52) 271 332 [some (aR q_S), some (aR 1), some (aR 188), some (aR 211), some (aI v4), none, none] [] (G, c) (QM Q) := by
  refine b271_332 hG (by intros; omega) (by intros; omega) (by intros; omega) (by intros; omega) ?_
  refine TM_Qm (fun r1 y1 x => ?_) (OP_j0 hG (op_kind (d := d + 1) hG hc scr_b scr_b) rfl (in2) (by decide +kernel) (by decide +kernel))
  obtain ⟨c1, v, e1, e2, e3, x2⟩ := x
  subst e1; subst e2
  refine b271_348 hG (by intros; omega) (by intros; omega) (by intros; omega) (by intros; omega) ?_
  refine TM_Qm (fun r2 y2 y => ?_) x2
  obtain ⟨c2, e4, e5, g2, g3⟩ := y
  subst e4; subst e5
  refine b271_364 hG (by intros; omega) (by intros; omega) ?_ ?_
  · intro p; exact hk c2 g2 (by omega)
  · intro p; exact absurd rfl p
theorem arm_5 (hG : Shp G) (hc : GR c c) (h0 : 0 ≤ v4) (h6 : v4 + 6 ≤ (G.2.2.2.2.1 : Int)) (hk : ∀ c2, GR c2 c2 → c2 0 0 ≤ c 0 0 + 1 → T (d + 52) 271 1328 [some (aR q_S), some (aR 1), some (aR 188), some (aR 211), some (aI v4), none, none] [] (G, c2) (QM Q)) : T (d + 52) 271 369 [some (aR q_S), some (aR 1), some (aR 188), some (aR 211), some (aI v4), none, none] [] (G, c) (QM Q) := by
  refine b271_369 hG (by intros; omega) (by intros; omega) (by intros; omega) (by intros; omega) ?_
  refine TM_Qm (fun r1 y1 x => ?_) (OP_j0 hG (op_meets (d := d + 1) hG hc scr_b scr_b) rfl (in2) (by decide +kernel) (by decide +kernel))
  obtain ⟨c1, v, e1, e2, e3, x2⟩ := x
  subst e1; subst e2
  refine b271_385 hG (by intros; omega) (by intros; omega) (by intros; omega) (by intros; omega) ?_
  refine TM_Qm (fun r2 y2 y => ?_) x2
  obtain ⟨c2, e4, e5, g2, g3⟩ := y
  subst e4; subst e5
  refine b271_401 hG (by intros; omega) (by intros; omega) ?_ ?_
  · intro p; exact hk c2 g2 (by omega)
  · intro p; exact absurd rfl p
theorem arm_7 (hG : Shp G) (hc : GR c c) (h0 : 0 ≤ v4) (h6 : v4 + 6 ≤ (G.2.2.2.2.1 : Int)) (hk : ∀ c2, GR c2 c2 → c2 0 0 ≤ c 0 0 + 1 → T (d + 52) 271 1328 [some (aR q_S), some (aR 1), some (aR 188), some (aR 211), some (aI v4), none, none] [] (G, c2) (QM Q)) : T (d + 52) 271 474 [some (aR q_S), some (aR 1), some (aR 188), some (aR 211), some (aI v4), none, none] [] (G, c) (QM Q) := by
  refine b271_474 hG (by intros; omega) (by intros; omega) (by intros; omega) (by intros; omega) ?_
  refine TM_Qm (fun r1 y1 x => ?_) (OP_j0 hG (op_debt (d := d + 1) hG hc scr_b scr_b) rfl (in2) (by decide +kernel) (by decide +kernel))
  obtain ⟨c1, v, e1, e2, e3, x2⟩ := x
  subst e1; subst e2
  refine b271_490 hG (by intros; omega) (by intros; omega) (by intros; omega) (by intros; omega) ?_
  refine TM_Qm (fun r2 y2 y => ?_) x2
  obtain ⟨c2, e4, e5, g2, g3⟩ := y
  subst e4; subst e5
  refine b271_506 hG (by intros; omega) (by intros; omega) ?_ ?_
  · intro p; exact hk c2 g2 (by omega)
  · intro p; exact absurd rfl p
theorem arm_8 (hG : Shp G) (hc : GR c c) (h0 : 0 ≤ v4) (h6 : v4 + 6 ≤ (G.2.2.2.2.1 : Int)) (hk : ∀ c2, GR c2 c2 → c2 0 0 ≤ c 0 0 + 1 → T (d + 52) 271 1328 [some (aR q_S), some (aR 1), some (aR 188), some (aR 211), some (aI v4), none, none] [] (G, c2) (QM Q)) : T (d + 52) 271 511 [some (aR q_S), some (aR 1), some (aR 188), some (aR 211), some (aI v4), none, none] [] (G, c) (QM Q) := by
  refine b271_511 hG (by intros; omega) (by intros; omega) ?_
  refine TM_Qm (fun r1 y1 x => ?_) (OP_j0 hG (op_now (d := d + 1) hG hc scr_b) rfl (in1) (by decide +kernel) (by decide +kernel))
  obtain ⟨c1, v, e1, e2, e3, x2⟩ := x
  subst e1; subst e2
  refine b271_521 hG (by intros; omega) (by intros; omega) ?_
  refine TM_Qm (fun r2 y2 y => ?_) x2
  obtain ⟨c2, e4, e5, g2, g3⟩ := y
  subst e4; subst e5
  refine b271_531 hG (by intros; omega) (by intros; omega) ?_ ?_
  · intro p; exact hk c2 g2 (by omega)
  · intro p; exact absurd rfl p
theorem arm_9 (hG : Shp G) (hc : GR c c) (h0 : 0 ≤ v4) (h6 : v4 + 6 ≤ (G.2.2.2.2.1 : Int)) (hk : ∀ c2, GR c2 c2 → c2 0 0 ≤ c 0 0 + 1 → T (d + 52) 271 1328 [some (aR q_S), some (aR 1), some (aR 188), some (aR 211), some (aI v4), none, none] [] (G, c2) (QM Q)) : T (d + 52) 271 536 [some (aR q_S), some (aR 1), some (aR 188), some (aR 211), some (aI v4), none, none] [] (G, c) (QM Q) := by
  refine b271_536 hG (by intros; omega) (by intros; omega) (by intros; omega) (by intros; omega) ?_
  refine TM_Qm (fun r1 y1 x => ?_) (OP_j0 hG (op_why (d := d + 1) hG hc scr_b scr_b) rfl (in2) (by decide +kernel) (by decide +kernel))
  obtain ⟨c1, v, e1, e2, e3, x2⟩ := x
  subst e1; subst e2
  refine b271_552 hG (by intros; omega) (by intros; omega) (by intros; omega) (by intros; omega) ?_
  refine TM_Qm (fun r2 y2 y => ?_) x2
  obtain ⟨c2, e4, e5, g2, g3⟩ := y
  subst e4; subst e5
  refine b271_568 hG (by intros; omega) (by intros; omega) ?_ ?_
  · intro p; exact hk c2 g2 (by omega)
  · intro p; exact absurd rfl p
theorem arm_10 (hG : Shp G) (hc : GR c c) (h0 : 0 ≤ v4) (h6 : v4 + 6 ≤ (G.2.2.2.2.1 : Int)) (hk : ∀ c2, GR c2 c2 → c2 0 0 ≤ c 0 0 + 1 → T (d + 52) 271 1328 [some (aR q_S), some (aR 1), some (aR 188), some (aR 211), some (aI v4), none, none] [] (G, c2) (QM Q)) : T (d + 52) 271 573 [some (aR q_S), some (aR 1), some (aR 188), some (aR 211), some (aI v4), none, none] [] (G, c) (QM Q) := by
  refine b271_573 hG (by intros; omega) (by intros; omega) (by intros; omega) (by intros; omega) ?_
  refine TM_Qm (fun r1 y1 x => ?_) (OP_j0 hG (op_give (d := d + 1) hG hc scr_b scr_b) rfl (in2) (by decide +kernel) (by decide +kernel))
  obtain ⟨c1, v, e1, e2, e3, x2⟩ := x
  subst e1; subst e2
  refine b271_589 hG (by intros; omega) (by intros; omega) (by intros; omega) (by intros; omega) ?_
  refine TM_Qm (fun r2 y2 y => ?_) x2
  obtain ⟨c2, e4, e5, g2, g3⟩ := y
  subst e4; subst e5
  refine b271_605 hG (by intros; omega) (by intros; omega) ?_ ?_
  · intro p; exact hk c2 g2 (by omega)
  · intro p; exact absurd rfl p
theorem arm_11 (hG : Shp G) (hc : GR c c) (h0 : 0 ≤ v4) (h6 : v4 + 6 ≤ (G.2.2.2.2.1 : Int)) (hk : ∀ c2, GR c2 c2 → c2 0 0 ≤ c 0 0 + 1 → T (d + 52) 271 1328 [some (aR q_S), some (aR 1), some (aR 188), some (aR 211), some (aI v4), none, none] [] (G, c2) (QM Q)) : T (d + 52) 271 610 [some (aR q_S), some (aR 1), some (aR 188), some (aR 211), some (aI v4), none, none] [] (G, c) (QM Q) := by
  refine b271_610 hG (by intros; omega) (by intros; omega) ?_
  refine TM_Qm (fun r1 y1 x => ?_) (OP_j0 hG (op_days (d := d + 1) hG hc scr_b) rfl (in1) (by decide +kernel) (by decide +kernel))
  obtain ⟨c1, v, e1, e2, e3, x2⟩ := x
  subst e1; subst e2
  refine b271_620 hG (by intros; omega) (by intros; omega) ?_
  refine TM_Qm (fun r2 y2 y => ?_) x2
  obtain ⟨c2, e4, e5, g2, g3⟩ := y
  subst e4; subst e5
  refine b271_630 hG (by intros; omega) (by intros; omega) ?_ ?_
  · intro p; exact hk c2 g2 (by omega)
  · intro p; exact absurd rfl p
theorem arm_12 (hG : Shp G) (hc : GR c c) (h0 : 0 ≤ v4) (h6 : v4 + 6 ≤ (G.2.2.2.2.1 : Int)) (hk : ∀ c2, GR c2 c2 → c2 0 0 ≤ c 0 0 + 1 → T (d + 52) 271 1328 [some (aR q_S), some (aR 1), some (aR 188), some (aR 211), some (aI v4), none, none] [] (G, c2) (QM Q)) : T (d + 52) 271 635 [some (aR q_S), some (aR 1), some (aR 188), some (aR 211), some (aI v4), none, none] [] (G, c) (QM Q) := by
  refine b271_635 hG (by intros; omega) (by intros; omega) ?_
  refine TM_Qm (fun r1 y1 x => ?_) (OP_j0 hG (op_clerk (d := d + 1) hG hc scr_b) rfl (in1) (by decide +kernel) (by decide +kernel))
  obtain ⟨c1, v, e1, e2, e3, x2⟩ := x
  subst e1; subst e2
  refine b271_645 hG (by intros; omega) (by intros; omega) ?_
  refine TM_Qm (fun r2 y2 y => ?_) x2
  obtain ⟨c2, e4, e5, g2, g3⟩ := y
  subst e4; subst e5
  refine b271_655 hG (by intros; omega) (by intros; omega) ?_ ?_
  · intro p; exact hk c2 g2 (by omega)
  · intro p; exact absurd rfl p
theorem arm_13 (hG : Shp G) (hc : GR c c) (h0 : 0 ≤ v4) (h6 : v4 + 6 ≤ (G.2.2.2.2.1 : Int)) (hk : ∀ c2, GR c2 c2 → c2 0 0 ≤ c 0 0 + 1 → T (d + 52) 271 1328 [some (aR q_S), some (aR 1), some (aR 188), some (aR 211), some (aI v4), none, none] [] (G, c2) (QM Q)) : T (d + 52) 271 660 [some (aR q_S), some (aR 1), some (aR 188), some (aR 211), some (aI v4), none, none] [] (G, c) (QM Q) := by
  refine b271_660 hG (by intros; omega) (by intros; omega) (by intros; omega) (by intros; omega) ?_
  refine TM_Qm (fun r1 y1 x => ?_) (OP_j0 hG (op_settled (d := d + 1) hG hc scr_b scr_b) rfl (in2) (by decide +kernel) (by decide +kernel))
  obtain ⟨c1, v, e1, e2, e3, x2⟩ := x
  subst e1; subst e2
  refine b271_676 hG (by intros; omega) (by intros; omega) (by intros; omega) (by intros; omega) ?_
  refine TM_Qm (fun r2 y2 y => ?_) x2
  obtain ⟨c2, e4, e5, g2, g3⟩ := y
  subst e4; subst e5
  refine b271_692 hG (by intros; omega) (by intros; omega) ?_ ?_
  · intro p; exact hk c2 g2 (by omega)
  · intro p; exact absurd rfl p
theorem arm_14 (hG : Shp G) (hc : GR c c) (h0 : 0 ≤ v4) (h6 : v4 + 6 ≤ (G.2.2.2.2.1 : Int)) (hk : ∀ c2, GR c2 c2 → c2 0 0 ≤ c 0 0 + 1 → T (d + 52) 271 1328 [some (aR q_S), some (aR 1), some (aR 188), some (aR 211), some (aI v4), none, none] [] (G, c2) (QM Q)) : T (d + 52) 271 697 [some (aR q_S), some (aR 1), some (aR 188), some (aR 211), some (aI v4), none, none] [] (G, c) (QM Q) := by
  refine b271_697 hG ?_
  refine TM_Qm (fun r1 y1 x => ?_) (OP_j0 hG (op_undo (d := d + 1) hG hc) rfl (in0) (by decide +kernel) (by decide +kernel))
  obtain ⟨c1, v, e1, e2, e3, x2⟩ := x
  subst e1; subst e2
  refine b271_701 hG ?_
  refine TM_Qm (fun r2 y2 y => ?_) x2
  obtain ⟨c2, e4, e5, g2, g3⟩ := y
  subst e4; subst e5
  refine b271_705 hG (by intros; omega) (by intros; omega) ?_ ?_
  · intro p; exact hk c2 g2 (by omega)
  · intro p; exact absurd rfl p
theorem arm_15 (hG : Shp G) (hc : GR c c) (h0 : 0 ≤ v4) (h6 : v4 + 6 ≤ (G.2.2.2.2.1 : Int)) (hk : ∀ c2, GR c2 c2 → c2 0 0 ≤ c 0 0 + 1 → T (d + 52) 271 1328 [some (aR q_S), some (aR 1), some (aR 188), some (aR 211), some (aI v4), none, none] [] (G, c2) (QM Q)) : T (d + 52) 271 710 [some (aR q_S), some (aR 1), some (aR 188), some (aR 211), some (aI v4), none, none] [] (G, c) (QM Q) := by
  refine b271_710 hG (by intros; omega) (by intros; omega) ?_
  refine TM_Qm (fun r1 y1 x => ?_) (OP_j0 hG (op_most (d := d + 1) hG hc scr_b) rfl (in1) (by decide +kernel) (by decide +kernel))
  obtain ⟨c1, v, e1, e2, e3, x2⟩ := x
  subst e1; subst e2
  refine b271_720 hG (by intros; omega) (by intros; omega) ?_
  refine TM_Qm (fun r2 y2 y => ?_) x2
  obtain ⟨c2, e4, e5, g2, g3⟩ := y
  subst e4; subst e5
  refine b271_730 hG (by intros; omega) (by intros; omega) ?_ ?_
  · intro p; exact hk c2 g2 (by omega)
  · intro p; exact absurd rfl p
theorem arm_16 (hG : Shp G) (hc : GR c c) (h0 : 0 ≤ v4) (h6 : v4 + 6 ≤ (G.2.2.2.2.1 : Int)) (hk : ∀ c2, GR c2 c2 → c2 0 0 ≤ c 0 0 + 1 → T (d + 52) 271 1328 [some (aR q_S), some (aR 1), some (aR 188), some (aR 211), some (aI v4), none, none] [] (G, c2) (QM Q)) : T (d + 52) 271 735 [some (aR q_S), some (aR 1), some (aR 188), some (aR 211), some (aI v4), none, none] [] (G, c) (QM Q) := by
  refine b271_735 hG (by intros; omega) (by intros; omega) ?_
  refine TM_Qm (fun r1 y1 x => ?_) (OP_j0 hG (op_gives (d := d + 1) hG hc scr_b) rfl (in1) (by decide +kernel) (by decide +kernel))
  obtain ⟨c1, v, e1, e2, e3, x2⟩ := x
  subst e1; subst e2
  refine b271_745 hG (by intros; omega) (by intros; omega) ?_
  refine TM_Qm (fun r2 y2 y => ?_) x2
  obtain ⟨c2, e4, e5, g2, g3⟩ := y
  subst e4; subst e5
  refine b271_755 hG (by intros; omega) (by intros; omega) ?_ ?_
  · intro p; exact hk c2 g2 (by omega)
  · intro p; exact absurd rfl p
theorem arm_17 (hG : Shp G) (hc : GR c c) (h0 : 0 ≤ v4) (h6 : v4 + 6 ≤ (G.2.2.2.2.1 : Int)) (hk : ∀ c2, GR c2 c2 → c2 0 0 ≤ c 0 0 + 1 → T (d + 52) 271 1328 [some (aR q_S), some (aR 1), some (aR 188), some (aR 211), some (aI v4), none, none] [] (G, c2) (QM Q)) : T (d + 52) 271 760 [some (aR q_S), some (aR 1), some (aR 188), some (aR 211), some (aI v4), none, none] [] (G, c) (QM Q) := by
  refine b271_760 hG (by intros; omega) (by intros; omega) ?_
  refine TM_Qm (fun r1 y1 x => ?_) (OP_j0 hG (op_hopeless (d := d + 1) hG hc scr_b) rfl (in1) (by decide +kernel) (by decide +kernel))
  obtain ⟨c1, v, e1, e2, e3, x2⟩ := x
  subst e1; subst e2
  refine b271_770 hG (by intros; omega) (by intros; omega) ?_
  refine TM_Qm (fun r2 y2 y => ?_) x2
  obtain ⟨c2, e4, e5, g2, g3⟩ := y
  subst e4; subst e5
  refine b271_780 hG (by intros; omega) (by intros; omega) ?_ ?_
  · intro p; exact hk c2 g2 (by omega)
  · intro p; exact absurd rfl p
theorem arm_19 (hG : Shp G) (hc : GR c c) (h0 : 0 ≤ v4) (h6 : v4 + 6 ≤ (G.2.2.2.2.1 : Int)) (hk : ∀ c2, GR c2 c2 → c2 0 0 ≤ c 0 0 + 1 → T (d + 52) 271 1328 [some (aR q_S), some (aR 1), some (aR 188), some (aR 211), some (aI v4), none, none] [] (G, c2) (QM Q)) : T (d + 52) 271 841 [some (aR q_S), some (aR 1), some (aR 188), some (aR 211), some (aI v4), none, none] [] (G, c) (QM Q) := by
  refine b271_841 hG ?_
  refine TM_Qm (fun r1 y1 x => ?_) (OP_j0 hG (op_fewest (d := d + 1) hG hc) rfl (in0) (by decide +kernel) (by decide +kernel))
  obtain ⟨c1, v, e1, e2, e3, x2⟩ := x
  subst e1; subst e2
  refine b271_845 hG ?_
  refine TM_Qm (fun r2 y2 y => ?_) x2
  obtain ⟨c2, e4, e5, g2, g3⟩ := y
  subst e4; subst e5
  refine b271_849 hG (by intros; omega) (by intros; omega) ?_ ?_
  · intro p; exact hk c2 g2 (by omega)
  · intro p; exact absurd rfl p
theorem arm_20 (hG : Shp G) (hc : GR c c) (h0 : 0 ≤ v4) (h6 : v4 + 6 ≤ (G.2.2.2.2.1 : Int)) (hk : ∀ c2, GR c2 c2 → c2 0 0 ≤ c 0 0 + 1 → T (d + 52) 271 1328 [some (aR q_S), some (aR 1), some (aR 188), some (aR 211), some (aI v4), none, none] [] (G, c2) (QM Q)) : T (d + 52) 271 854 [some (aR q_S), some (aR 1), some (aR 188), some (aR 211), some (aI v4), none, none] [] (G, c) (QM Q) := by
  refine b271_854 hG ?_
  refine TM_Qm (fun r1 y1 x => ?_) (OP_j0 hG (op_groups (d := d + 1) hG hc) rfl (in0) (by decide +kernel) (by decide +kernel))
  obtain ⟨c1, v, e1, e2, e3, x2⟩ := x
  subst e1; subst e2
  refine b271_858 hG ?_
  refine TM_Qm (fun r2 y2 y => ?_) x2
  obtain ⟨c2, e4, e5, g2, g3⟩ := y
  subst e4; subst e5
  refine b271_862 hG (by intros; omega) (by intros; omega) ?_ ?_
  · intro p; exact hk c2 g2 (by omega)
  · intro p; exact absurd rfl p
theorem arm_21 (hG : Shp G) (hc : GR c c) (h0 : 0 ≤ v4) (h6 : v4 + 6 ≤ (G.2.2.2.2.1 : Int)) (hk : ∀ c2, GR c2 c2 → c2 0 0 ≤ c 0 0 + 1 → T (d + 52) 271 1328 [some (aR q_S), some (aR 1), some (aR 188), some (aR 211), some (aI v4), none, none] [] (G, c2) (QM Q)) : T (d + 52) 271 867 [some (aR q_S), some (aR 1), some (aR 188), some (aR 211), some (aI v4), none, none] [] (G, c) (QM Q) := by
  refine b271_867 hG (by intros; omega) (by intros; omega) (by intros; omega) (by intros; omega) ?_
  refine TM_Qm (fun r1 y1 x => ?_) (OP_j0 hG (op_were (d := d + 1) hG hc scr_b scr_b) rfl (in2) (by decide +kernel) (by decide +kernel))
  obtain ⟨c1, v, e1, e2, e3, x2⟩ := x
  subst e1; subst e2
  refine b271_883 hG (by intros; omega) (by intros; omega) (by intros; omega) (by intros; omega) ?_
  refine TM_Qm (fun r2 y2 y => ?_) x2
  obtain ⟨c2, e4, e5, g2, g3⟩ := y
  subst e4; subst e5
  refine b271_899 hG (by intros; omega) (by intros; omega) ?_ ?_
  · intro p; exact hk c2 g2 (by omega)
  · intro p; exact absurd rfl p
theorem arm_22 (hG : Shp G) (hc : GR c c) (h0 : 0 ≤ v4) (h6 : v4 + 6 ≤ (G.2.2.2.2.1 : Int)) (hk : ∀ c2, GR c2 c2 → c2 0 0 ≤ c 0 0 + 1 → T (d + 52) 271 1328 [some (aR q_S), some (aR 1), some (aR 188), some (aR 211), some (aI v4), none, none] [] (G, c2) (QM Q)) : T (d + 52) 271 904 [some (aR q_S), some (aR 1), some (aR 188), some (aR 211), some (aI v4), none, none] [] (G, c) (QM Q) := by
  refine b271_904 hG (by intros; omega) (by intros; omega) ?_
  refine TM_Qm (fun r1 y1 x => ?_) (OP_j0 hG (op_first (d := d + 1) hG hc scr_b) rfl (in1) (by decide +kernel) (by decide +kernel))
  obtain ⟨c1, v, e1, e2, e3, x2⟩ := x
  subst e1; subst e2
  refine b271_914 hG (by intros; omega) (by intros; omega) ?_
  refine TM_Qm (fun r2 y2 y => ?_) x2
  obtain ⟨c2, e4, e5, g2, g3⟩ := y
  subst e4; subst e5
  refine b271_924 hG (by intros; omega) (by intros; omega) ?_ ?_
  · intro p; exact hk c2 g2 (by omega)
  · intro p; exact absurd rfl p
theorem arm_23 (hG : Shp G) (hc : GR c c) (h0 : 0 ≤ v4) (h6 : v4 + 6 ≤ (G.2.2.2.2.1 : Int)) (hk : ∀ c2, GR c2 c2 → c2 0 0 ≤ c 0 0 + 1 → T (d + 52) 271 1328 [some (aR q_S), some (aR 1), some (aR 188), some (aR 211), some (aI v4), none, none] [] (G, c2) (QM Q)) : T (d + 52) 271 929 [some (aR q_S), some (aR 1), some (aR 188), some (aR 211), some (aI v4), none, none] [] (G, c) (QM Q) := by
  refine b271_929 hG (by intros; omega) (by intros; omega) (by intros; omega) (by intros; omega) ?_
  refine TM_Qm (fun r1 y1 x => ?_) (OP_j0 hG (op_appeal (d := d + 1) hG hc scr_b scr_b) rfl (in2) (by decide +kernel) (by decide +kernel))
  obtain ⟨c1, v, e1, e2, e3, x2⟩ := x
  subst e1; subst e2
  refine b271_945 hG (by intros; omega) (by intros; omega) (by intros; omega) (by intros; omega) ?_
  refine TM_Qm (fun r2 y2 y => ?_) x2
  obtain ⟨c2, e4, e5, g2, g3⟩ := y
  subst e4; subst e5
  refine b271_961 hG (by intros; omega) (by intros; omega) ?_ ?_
  · intro p; exact hk c2 g2 (by omega)
  · intro p; exact absurd rfl p
theorem arm_24 (hG : Shp G) (hc : GR c c) (h0 : 0 ≤ v4) (h6 : v4 + 6 ≤ (G.2.2.2.2.1 : Int)) (hk : ∀ c2, GR c2 c2 → c2 0 0 ≤ c 0 0 + 1 → T (d + 52) 271 1328 [some (aR q_S), some (aR 1), some (aR 188), some (aR 211), some (aI v4), none, none] [] (G, c2) (QM Q)) : T (d + 52) 271 966 [some (aR q_S), some (aR 1), some (aR 188), some (aR 211), some (aI v4), none, none] [] (G, c) (QM Q) := by
  refine b271_966 hG (by intros; omega) (by intros; omega) (by intros; omega) (by intros; omega) ?_
  refine TM_Qm (fun r1 y1 x => ?_) (OP_j0 hG (op_grant (d := d + 1) hG hc scr_b scr_b) rfl (in2) (by decide +kernel) (by decide +kernel))
  obtain ⟨c1, v, e1, e2, e3, x2⟩ := x
  subst e1; subst e2
  refine b271_982 hG (by intros; omega) (by intros; omega) (by intros; omega) (by intros; omega) ?_
  refine TM_Qm (fun r2 y2 y => ?_) x2
  obtain ⟨c2, e4, e5, g2, g3⟩ := y
  subst e4; subst e5
  refine b271_998 hG (by intros; omega) (by intros; omega) ?_ ?_
  · intro p; exact hk c2 g2 (by omega)
  · intro p; exact absurd rfl p
theorem arm_25 (hG : Shp G) (hc : GR c c) (h0 : 0 ≤ v4) (h6 : v4 + 6 ≤ (G.2.2.2.2.1 : Int)) (hk : ∀ c2, GR c2 c2 → c2 0 0 ≤ c 0 0 + 1 → T (d + 52) 271 1328 [some (aR q_S), some (aR 1), some (aR 188), some (aR 211), some (aI v4), none, none] [] (G, c2) (QM Q)) : T (d + 52) 271 1003 [some (aR q_S), some (aR 1), some (aR 188), some (aR 211), some (aI v4), none, none] [] (G, c) (QM Q) := by
  refine b271_1003 hG ?_
  refine TM_Qm (fun r1 y1 x => ?_) (OP_j0 hG (op_ends (d := d + 1) hG hc) rfl (in0) (by decide +kernel) (by decide +kernel))
  obtain ⟨c1, v, e1, e2, e3, x2⟩ := x
  subst e1; subst e2
  refine b271_1007 hG ?_
  refine TM_Qm (fun r2 y2 y => ?_) x2
  obtain ⟨c2, e4, e5, g2, g3⟩ := y
  subst e4; subst e5
  refine b271_1011 hG (by intros; omega) (by intros; omega) ?_ ?_
  · intro p; exact hk c2 g2 (by omega)
  · intro p; exact absurd rfl p
theorem arm_26 (hG : Shp G) (hc : GR c c) (h0 : 0 ≤ v4) (h6 : v4 + 6 ≤ (G.2.2.2.2.1 : Int)) (hk : ∀ c2, GR c2 c2 → c2 0 0 ≤ c 0 0 + 1 → T (d + 52) 271 1328 [some (aR q_S), some (aR 1), some (aR 188), some (aR 211), some (aI v4), none, none] [] (G, c2) (QM Q)) : T (d + 52) 271 1016 [some (aR q_S), some (aR 1), some (aR 188), some (aR 211), some (aI v4), none, none] [] (G, c) (QM Q) := by
  refine b271_1016 hG (by intros; omega) (by intros; omega) ?_
  refine TM_Qm (fun r1 y1 x => ?_) (OP_j0 hG (op_later (d := d + 1) hG hc scr_b) rfl (in1) (by decide +kernel) (by decide +kernel))
  obtain ⟨c1, v, e1, e2, e3, x2⟩ := x
  subst e1; subst e2
  refine b271_1026 hG (by intros; omega) (by intros; omega) ?_
  refine TM_Qm (fun r2 y2 y => ?_) x2
  obtain ⟨c2, e4, e5, g2, g3⟩ := y
  subst e4; subst e5
  refine b271_1036 hG (by intros; omega) (by intros; omega) ?_ ?_
  · intro p; exact hk c2 g2 (by omega)
  · intro p; exact absurd rfl p
theorem arm_27 (hG : Shp G) (hc : GR c c) (h0 : 0 ≤ v4) (h6 : v4 + 6 ≤ (G.2.2.2.2.1 : Int)) (hk : ∀ c2, GR c2 c2 → c2 0 0 ≤ c 0 0 + 1 → T (d + 52) 271 1328 [some (aR q_S), some (aR 1), some (aR 188), some (aR 211), some (aI v4), none, none] [] (G, c2) (QM Q)) : T (d + 52) 271 1041 [some (aR q_S), some (aR 1), some (aR 188), some (aR 211), some (aI v4), none, none] [] (G, c) (QM Q) := by
  refine b271_1041 hG (by intros; omega) (by intros; omega) ?_
  refine TM_Qm (fun r1 y1 x => ?_) (OP_j0 hG (op_queue (d := d + 1) hG hc scr_b) rfl (in1) (by decide +kernel) (by decide +kernel))
  obtain ⟨c1, v, e1, e2, e3, x2⟩ := x
  subst e1; subst e2
  refine b271_1051 hG (by intros; omega) (by intros; omega) ?_
  refine TM_Qm (fun r2 y2 y => ?_) x2
  obtain ⟨c2, e4, e5, g2, g3⟩ := y
  subst e4; subst e5
  refine b271_1061 hG (by intros; omega) (by intros; omega) ?_ ?_
  · intro p; exact hk c2 g2 (by omega)
  · intro p; exact absurd rfl p
theorem arm_28 (hG : Shp G) (hc : GR c c) (h0 : 0 ≤ v4) (h6 : v4 + 6 ≤ (G.2.2.2.2.1 : Int)) (hk : ∀ c2, GR c2 c2 → c2 0 0 ≤ c 0 0 + 1 → T (d + 52) 271 1328 [some (aR q_S), some (aR 1), some (aR 188), some (aR 211), some (aI v4), none, none] [] (G, c2) (QM Q)) : T (d + 52) 271 1066 [some (aR q_S), some (aR 1), some (aR 188), some (aR 211), some (aI v4), none, none] [] (G, c) (QM Q) := by
  refine b271_1066 hG (by intros; omega) (by intros; omega) (by intros; omega) (by intros; omega) ?_
  refine TM_Qm (fun r1 y1 x => ?_) (OP_j0 hG (op_drawn (d := d + 1) hG hc scr_b) rfl (in2) (by decide +kernel) (by decide +kernel))
  obtain ⟨c1, v, e1, e2, e3, x2⟩ := x
  subst e1; subst e2
  refine b271_1082 hG (by intros; omega) (by intros; omega) (by intros; omega) (by intros; omega) ?_
  refine TM_Qm (fun r2 y2 y => ?_) x2
  obtain ⟨c2, e4, e5, g2, g3⟩ := y
  subst e4; subst e5
  refine b271_1098 hG (by intros; omega) (by intros; omega) ?_ ?_
  · intro p; exact hk c2 g2 (by omega)
  · intro p; exact absurd rfl p
theorem arm_29 (hG : Shp G) (hc : GR c c) (h0 : 0 ≤ v4) (h6 : v4 + 6 ≤ (G.2.2.2.2.1 : Int)) (hk : ∀ c2, GR c2 c2 → c2 0 0 ≤ c 0 0 + 1 → T (d + 52) 271 1328 [some (aR q_S), some (aR 1), some (aR 188), some (aR 211), some (aI v4), none, none] [] (G, c2) (QM Q)) : T (d + 52) 271 1103 [some (aR q_S), some (aR 1), some (aR 188), some (aR 211), some (aI v4), none, none] [] (G, c) (QM Q) := by
  refine b271_1103 hG (by intros; omega) (by intros; omega) (by intros; omega) (by intros; omega) ?_
  refine TM_Qm (fun r1 y1 x => ?_) (OP_j0 hG (op_odds (d := d + 1) hG hc scr_b) rfl (in2) (by decide +kernel) (by decide +kernel))
  obtain ⟨c1, v, e1, e2, e3, x2⟩ := x
  subst e1; subst e2
  refine b271_1119 hG (by intros; omega) (by intros; omega) (by intros; omega) (by intros; omega) ?_
  refine TM_Qm (fun r2 y2 y => ?_) x2
  obtain ⟨c2, e4, e5, g2, g3⟩ := y
  subst e4; subst e5
  refine b271_1135 hG (by intros; omega) (by intros; omega) ?_ ?_
  · intro p; exact hk c2 g2 (by omega)
  · intro p; exact absurd rfl p
theorem arm_30 (hG : Shp G) (hc : GR c c) (h0 : 0 ≤ v4) (h6 : v4 + 6 ≤ (G.2.2.2.2.1 : Int)) (hk : ∀ c2, GR c2 c2 → c2 0 0 ≤ c 0 0 + 1 → T (d + 52) 271 1328 [some (aR q_S), some (aR 1), some (aR 188), some (aR 211), some (aI v4), none, none] [] (G, c2) (QM Q)) : T (d + 52) 271 1140 [some (aR q_S), some (aR 1), some (aR 188), some (aR 211), some (aI v4), none, none] [] (G, c) (QM Q) := by
  refine b271_1140 hG (by intros; omega) (by intros; omega) ?_
  refine TM_Qm (fun r1 y1 x => ?_) (OP_j0 hG (op_greatest (d := d + 1) hG hc scr_b) rfl (in1) (by decide +kernel) (by decide +kernel))
  obtain ⟨c1, v, e1, e2, e3, x2⟩ := x
  subst e1; subst e2
  refine b271_1150 hG (by intros; omega) (by intros; omega) ?_
  refine TM_Qm (fun r2 y2 y => ?_) x2
  obtain ⟨c2, e4, e5, g2, g3⟩ := y
  subst e4; subst e5
  refine b271_1160 hG (by intros; omega) (by intros; omega) ?_ ?_
  · intro p; exact hk c2 g2 (by omega)
  · intro p; exact absurd rfl p
theorem arm_31 (hG : Shp G) (hc : GR c c) (h0 : 0 ≤ v4) (h6 : v4 + 6 ≤ (G.2.2.2.2.1 : Int)) (hk : ∀ c2, GR c2 c2 → c2 0 0 ≤ c 0 0 + 1 → T (d + 52) 271 1328 [some (aR q_S), some (aR 1), some (aR 188), some (aR 211), some (aI v4), none, none] [] (G, c2) (QM Q)) : T (d + 52) 271 1165 [some (aR q_S), some (aR 1), some (aR 188), some (aR 211), some (aI v4), none, none] [] (G, c) (QM Q) := by
  refine b271_1165 hG (by intros; omega) (by intros; omega) ?_
  refine TM_Qm (fun r1 y1 x => ?_) (OP_j0 hG (op_daybook (d := d + 1) hG hc scr_b) rfl (in1) (by decide +kernel) (by decide +kernel))
  obtain ⟨c1, v, e1, e2, e3, x2⟩ := x
  subst e1; subst e2
  refine b271_1175 hG (by intros; omega) (by intros; omega) ?_
  refine TM_Qm (fun r2 y2 y => ?_) x2
  obtain ⟨c2, e4, e5, g2, g3⟩ := y
  subst e4; subst e5
  refine b271_1185 hG (by intros; omega) (by intros; omega) ?_ ?_
  · intro p; exact hk c2 g2 (by omega)
  · intro p; exact absurd rfl p
theorem arm_32 (hG : Shp G) (hc : GR c c) (h0 : 0 ≤ v4) (h6 : v4 + 6 ≤ (G.2.2.2.2.1 : Int)) (hk : ∀ c2, GR c2 c2 → c2 0 0 ≤ c 0 0 + 1 → T (d + 52) 271 1328 [some (aR q_S), some (aR 1), some (aR 188), some (aR 211), some (aI v4), none, none] [] (G, c2) (QM Q)) : T (d + 52) 271 1190 [some (aR q_S), some (aR 1), some (aR 188), some (aR 211), some (aI v4), none, none] [] (G, c) (QM Q) := by
  refine b271_1190 hG (by intros; omega) (by intros; omega) ?_
  refine TM_Qm (fun r1 y1 x => ?_) (OP_j0 hG (op_booked (d := d + 1) hG hc scr_b) rfl (in1) (by decide +kernel) (by decide +kernel))
  obtain ⟨c1, v, e1, e2, e3, x2⟩ := x
  subst e1; subst e2
  refine b271_1200 hG (by intros; omega) (by intros; omega) ?_
  refine TM_Qm (fun r2 y2 y => ?_) x2
  obtain ⟨c2, e4, e5, g2, g3⟩ := y
  subst e4; subst e5
  refine b271_1210 hG (by intros; omega) (by intros; omega) ?_ ?_
  · intro p; exact hk c2 g2 (by omega)
  · intro p; exact absurd rfl p
theorem arm_33 (hG : Shp G) (hc : GR c c) (h0 : 0 ≤ v4) (h6 : v4 + 6 ≤ (G.2.2.2.2.1 : Int)) (hk : ∀ c2, GR c2 c2 → c2 0 0 ≤ c 0 0 + 1 → T (d + 52) 271 1328 [some (aR q_S), some (aR 1), some (aR 188), some (aR 211), some (aI v4), none, none] [] (G, c2) (QM Q)) : T (d + 52) 271 1215 [some (aR q_S), some (aR 1), some (aR 188), some (aR 211), some (aI v4), none, none] [] (G, c) (QM Q) := by
  refine b271_1215 hG ?_
  refine TM_Qm (fun r1 y1 x => ?_) (OP_j0 hG (op_sentence (d := d + 1) hG hc) rfl (in0) (by decide +kernel) (by decide +kernel))
  obtain ⟨c1, v, e1, e2, e3, x2⟩ := x
  subst e1; subst e2
  refine b271_1219 hG ?_
  refine TM_Qm (fun r2 y2 y => ?_) x2
  obtain ⟨c2, e4, e5, g2, g3⟩ := y
  subst e4; subst e5
  refine b271_1223 hG (by intros; omega) (by intros; omega) ?_ ?_
  · intro p; exact hk c2 g2 (by omega)
  · intro p; exact absurd rfl p
theorem arm_34 (hG : Shp G) (hc : GR c c) (h0 : 0 ≤ v4) (h6 : v4 + 6 ≤ (G.2.2.2.2.1 : Int)) (hk : ∀ c2, GR c2 c2 → c2 0 0 ≤ c 0 0 + 1 → T (d + 52) 271 1328 [some (aR q_S), some (aR 1), some (aR 188), some (aR 211), some (aI v4), none, none] [] (G, c2) (QM Q)) : T (d + 52) 271 1228 [some (aR q_S), some (aR 1), some (aR 188), some (aR 211), some (aI v4), none, none] [] (G, c) (QM Q) := by
  refine b271_1228 hG (by intros; omega) (by intros; omega) ?_
  refine TM_Qm (fun r1 y1 x => ?_) (OP_j0 hG (op_said (d := d + 1) hG hc scr_b) rfl (in1) (by decide +kernel) (by decide +kernel))
  obtain ⟨c1, v, e1, e2, e3, x2⟩ := x
  subst e1; subst e2
  refine b271_1238 hG (by intros; omega) (by intros; omega) ?_
  refine TM_Qm (fun r2 y2 y => ?_) x2
  obtain ⟨c2, e4, e5, g2, g3⟩ := y
  subst e4; subst e5
  refine b271_1248 hG (by intros; omega) (by intros; omega) ?_ ?_
  · intro p; exact hk c2 g2 (by omega)
  · intro p; exact absurd rfl p
theorem arm_35 (hG : Shp G) (hc : GR c c) (h0 : 0 ≤ v4) (h6 : v4 + 6 ≤ (G.2.2.2.2.1 : Int)) (hk : ∀ c2, GR c2 c2 → c2 0 0 ≤ c 0 0 + 1 → T (d + 52) 271 1328 [some (aR q_S), some (aR 1), some (aR 188), some (aR 211), some (aI v4), none, none] [] (G, c2) (QM Q)) : T (d + 52) 271 1253 [some (aR q_S), some (aR 1), some (aR 188), some (aR 211), some (aI v4), none, none] [] (G, c) (QM Q) := by
  refine b271_1253 hG (by intros; omega) (by intros; omega) ?_
  refine TM_Qm (fun r1 y1 x => ?_) (OP_j0 hG (op_image (d := d + 1) hG hc scr_b) rfl (in1) (by decide +kernel) (by decide +kernel))
  obtain ⟨c1, v, e1, e2, e3, x2⟩ := x
  subst e1; subst e2
  refine b271_1263 hG (by intros; omega) (by intros; omega) ?_
  refine TM_Qm (fun r2 y2 y => ?_) x2
  obtain ⟨c2, e4, e5, g2, g3⟩ := y
  subst e4; subst e5
  refine b271_1273 hG (by intros; omega) (by intros; omega) ?_ ?_
  · intro p; exact hk c2 g2 (by omega)
  · intro p; exact absurd rfl p
theorem arm_36 (hG : Shp G) (hc : GR c c) (h0 : 0 ≤ v4) (h6 : v4 + 6 ≤ (G.2.2.2.2.1 : Int)) (hk : ∀ c2, GR c2 c2 → c2 0 0 ≤ c 0 0 + 1 → T (d + 52) 271 1328 [some (aR q_S), some (aR 1), some (aR 188), some (aR 211), some (aI v4), none, none] [] (G, c2) (QM Q)) : T (d + 52) 271 1278 [some (aR q_S), some (aR 1), some (aR 188), some (aR 211), some (aI v4), none, none] [] (G, c) (QM Q) := by
  refine b271_1278 hG (by intros; omega) (by intros; omega) ?_
  refine TM_Qm (fun r1 y1 x => ?_) (OP_j0 hG (op_restore (d := d + 1) hG hc scr_b) rfl (in1) (by decide +kernel) (by decide +kernel))
  obtain ⟨c1, v, e1, e2, e3, x2⟩ := x
  subst e1; subst e2
  refine b271_1288 hG (by intros; omega) (by intros; omega) ?_
  refine TM_Qm (fun r2 y2 y => ?_) x2
  obtain ⟨c2, e4, e5, g2, g3⟩ := y
  subst e4; subst e5
  refine b271_1298 hG (by intros; omega) (by intros; omega) ?_ ?_
  · intro p; exact hk c2 g2 (by omega)
  · intro p; exact absurd rfl p
theorem arm_37 (hG : Shp G) (hc : GR c c) (h0 : 0 ≤ v4) (h6 : v4 + 6 ≤ (G.2.2.2.2.1 : Int)) (hk : ∀ c2, GR c2 c2 → c2 0 0 ≤ c 0 0 + 1 → T (d + 52) 271 1328 [some (aR q_S), some (aR 1), some (aR 188), some (aR 211), some (aI v4), none, none] [] (G, c2) (QM Q)) : T (d + 52) 271 1303 [some (aR q_S), some (aR 1), some (aR 188), some (aR 211), some (aI v4), none, none] [] (G, c) (QM Q) := by
  refine b271_1303 hG (by intros; omega) (by intros; omega) ?_
  refine TM_Qm (fun r1 y1 x => ?_) (OP_j0 hG (op_count (d := d + 1) hG hc scr_b) rfl (in1) (by decide +kernel) (by decide +kernel))
  obtain ⟨c1, v, e1, e2, e3, x2⟩ := x
  subst e1; subst e2
  refine b271_1313 hG (by intros; omega) (by intros; omega) ?_
  refine TM_Qm (fun r2 y2 y => ?_) x2
  obtain ⟨c2, e4, e5, g2, g3⟩ := y
  subst e4; subst e5
  refine b271_1323 hG (by intros; omega) (by intros; omega) ?_ ?_
  · intro p; exact hk c2 g2 (by omega)
  · intro p; exact absurd rfl p
end SPar0
